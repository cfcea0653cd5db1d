/** Each promise's arguments: the first and the last that is taken, those beside them, and that nothing happens. */
public final class RefusedBoundsTest {
    private static final String LAND = "food salt 5 1 3 0 1; food meat 2 4 0 5 0; food leek 9 2 1 1 4;"
            + "dish soup 3 salt leek leek; dish roast 7 meat salt; guest ann 2; guest bob 9;"
            + "deed sing 0 4; deed hunt 1 5; deed tax 2 6; fills = 1; slips = 50; seed 3;";

    /** A call of which one argument is told later. */
    private interface Call {
        int of(CookedLaw law, int i);
    }

    public static void main(String[] args) {
        looks();
        things();
        questions();
        toldOnes();
        slots();
        noneIsLookedAtFirst();
        refusedOtherwise();
        questionsChangeNothing();
        fullLand();
        emptyLand();
        Check.end("RefusedBoundsTest");
    }

    private static CookedLaw lived() {
        CookedLaw law = Check.land(LAND);
        law.cook(1);
        law.hold(1);
        law.eat(0);
        law.days(2);
        law.tell(0, 3, 4);
        law.tell(1, 9, 2);
        Check.feed(law, "seed 1");
        return law;
    }

    /** Taken from the first to the last; beside them NONE, and nothing happens. */
    private static void taken(String name, int first, int last, Call call) {
        Check.due(name + " of " + first, call.of(lived(), first) == -1, false);
        Check.due(name + " of " + last, call.of(lived(), last) == -1, false);
        int[] beside = {first - 1, last + 1, last + 2, last + 256, Integer.MAX_VALUE, Integer.MIN_VALUE, Integer.MIN_VALUE + 1,
            0x10000, 0x7fff0000, 1 << 30, -last - 2};
        for (int i : beside) {
            if (i < first || i > last) {
                Check.refused(name + " of " + i, RefusedBoundsTest::lived, law -> call.of(law, i), -1);
            }
        }
    }

    private static int bit(boolean b) {
        return b ? 1 : 0;
    }

    // food, dish, amount, guest, deed, count: NONE for others.
    private static void looks() {
        taken("food", 0, 2, (law, i) -> law.food(i, 0));
        taken("food what", 0, 4, (law, i) -> law.food(2, i));
        taken("dish", 0, 1, (law, i) -> law.dish(i, 0));
        taken("dish what", 0, 6, (law, i) -> law.dish(1, i));
        taken("amount dish", 0, 1, (law, i) -> law.amount(i, 2));
        taken("amount food", 0, 2, (law, i) -> law.amount(1, i));
        taken("guest", 0, 1, (law, i) -> law.guest(i, 0));
        taken("guest what", 0, 5, (law, i) -> law.guest(1, i));
        taken("deed", 0, 2, (law, i) -> law.deed(i, 0));
        taken("deed what", 0, 2, (law, i) -> law.deed(2, i));
        taken("count", 0, 15, (law, i) -> law.count(i));
    }

    // cook: NONE: no such DISH. eat: NONE: no such one. days: NONE, and nothing happens: no such n (0 .. 60).
    private static void things() {
        taken("cook", 0, 1, (law, i) -> law.cook(i));
        taken("eat", 0, 1, (law, i) -> law.eat(i));
        taken("days", 0, 60, (law, i) -> law.days(i));
        taken("back", 0, 6, (law, i) -> law.back(i));
        Check.refused("days(0): no thing done", RefusedBoundsTest::lived, law -> law.days(0), 2);
        Check.refused("back(0)", RefusedBoundsTest::lived, law -> law.back(0), 6);
    }

    // pot .. boundIn, year: NONE: no such ones.
    private static void questions() {
        taken("pot one", 0, 99, (law, i) -> law.pot(i, 0, 0, 0));
        taken("pot two", 0, 99, (law, i) -> law.pot(0, i, 0, 1));
        taken("pot three", 0, 99, (law, i) -> law.pot(0, 0, i, 2));
        taken("pot what", 0, 7, (law, i) -> law.pot(1, 1, 1, i));
        taken("pinch", 0, 1, (law, i) -> law.pinch(i, 0));
        taken("pinch what", 0, 1, (law, i) -> law.pinch(1, i));
        taken("freest", 0, 1, (law, i) -> law.freest(i, 0));
        taken("freest what", 0, 1, (law, i) -> law.freest(1, i));
        taken("feud guest", 0, 1, (law, i) -> law.feud(i, 0, 1));
        taken("feud deed", 0, 2, (law, i) -> law.feud(0, i, 1));
        taken("feud other", 0, 2, (law, i) -> law.feud(0, 1, i));
        taken("menu guest", 0, 1, (law, i) -> law.menu(i, 2, 1, -1));
        taken("menu n", 1, 4, (law, i) -> law.menu(1, i, 1, -1));
        taken("menu set", 0, 7, (law, i) -> law.menu(1, 2, i, -1));
        for (int n = 1; n <= 4; n++) {
            int days = n;
            taken("menu i of " + n, -1, n - 1, (law, i) -> law.menu(1, days, 1, i));
            taken("menu i of " + n + ", no MENU", -1, n - 1, (law, i) -> law.menu(0, days, 7, i));
        }
        taken("often", 0, 1, (law, i) -> law.often(i));
        taken("hunger guest", 0, 1, (law, i) -> law.hunger(i, 2));
        taken("hunger deed", 0, 2, (law, i) -> law.hunger(1, i));
        taken("stockIn food", 0, 2, (law, i) -> law.stockIn(i, 3));
        taken("stockIn n", 0, 60, (law, i) -> law.stockIn(2, i));
        taken("boundIn guest", 0, 1, (law, i) -> law.boundIn(i, 2, 3));
        taken("boundIn force", 0, 2, (law, i) -> law.boundIn(0, i, 3));
        taken("boundIn n", 0, 60, (law, i) -> law.boundIn(0, 2, i));
        taken("year dish", 0, 1, (law, i) -> law.year(i, 0, 0, 1));
        taken("year force", 0, 2, (law, i) -> law.year(0, i, 0, 1));
        taken("year f", 0, 99, (law, i) -> law.year(0, 0, i, 1));
        taken("year s", 1, 20, (law, i) -> law.year(0, 0, 0, i));
        for (int deed = 0; deed < 3; deed++) {
            int same = deed;
            Check.refused("feud, one and the same", RefusedBoundsTest::lived, law -> law.feud(0, same, same), -1);
        }
    }

    // tell: FORCE, HEAT (0 .. 9), what it was (0 .. 99). blame, sure, taste: NONE: no such k.
    private static void toldOnes() {
        taken("tell force", 0, 2, (law, i) -> law.tell(i, 3, 4));
        taken("tell heat", 0, 9, (law, i) -> law.tell(1, i, 4));
        taken("tell is", 0, 99, (law, i) -> law.tell(1, 3, i));
        taken("blame", 0, 2, (law, i) -> law.blame(i));
        taken("sure", 0, 2, (law, i) -> law.sure(i));
        taken("taste", 0, 2, (law, i) -> law.taste(i));
    }

    // hold, restore: a SLOT (0 .. 2); false, and nothing happens: no such one, nothing is held.
    private static void slots() {
        for (int slot : new int[] {-1, 3, 4, 256, 1 << 30, Integer.MAX_VALUE, Integer.MIN_VALUE}) {
            Check.refused("hold(" + slot + ")", RefusedBoundsTest::lived, law -> bit(law.hold(slot)), 0);
            Check.refused("restore(" + slot + ")", RefusedBoundsTest::lived, law -> bit(law.restore(slot)), 0);
        }
        for (int slot : new int[] {0, 2}) {
            Check.refused("restore(" + slot + ") of nothing", RefusedBoundsTest::lived, law -> bit(law.restore(slot)), 0);
        }
        for (int slot = 0; slot < 3; slot++) {
            CookedLaw law = lived();
            Check.due("hold(" + slot + ")", law.hold(slot), true);
            Check.due("SLOTS", law.count(13), slot == 1 ? 1 : 2);
            Check.due("restore(" + slot + ")", law.restore(slot), true);
        }
    }

    // NONE (looked at first): ahead of -2 and -3.
    private static void noneIsLookedAtFirst() {
        String none = "food a 0 1 1 1 1; dish d 1 a; guest g 1; deed e 0 0; deed f 0 1;";
        CookedLaw law = Check.land(none);
        Check.due("eat, nothing is served", law.eat(0), -2);
        Check.due("eat(1)", law.eat(1), -1);
        Check.due("eat(-1)", law.eat(-1), -1);
        Check.due("cook, not in store", law.cook(0), -3);
        Check.due("cook(1)", law.cook(1), -1);
        Check.due("year, not in store", law.year(0, 0, 0, 1), -2);
        Check.due("year dish", law.year(1, 0, 0, 1), -1);
        Check.due("year force", law.year(0, 3, 0, 1), -1);
        Check.due("year f", law.year(0, 0, 100, 1), -1);
        Check.due("year f", law.year(0, 0, -1, 1), -1);
        Check.due("year s 0", law.year(0, 0, 0, 0), -1);
        Check.due("year s 21", law.year(0, 0, 0, 21), -1);
        Check.due("menu, there is none", law.menu(0, 1, 1, -1), -2);
        Check.due("menu, there is none", law.menu(0, 1, 1, 0), -3);
        Check.due("menu i 1", law.menu(0, 1, 1, 1), -1);
        Check.due("menu i -2", law.menu(0, 1, 1, -2), -1);
        Check.due("menu n 0", law.menu(0, 0, 1, -1), -1);
        Check.due("menu n 5", law.menu(0, 5, 1, -1), -1);
        Check.due("menu guest", law.menu(1, 1, 1, -1), -1);
        Check.due("menu set", law.menu(0, 1, 4, -1), -1);
        Check.due("pot, there is none", law.pot(0, 0, 0, 0), -2);
        Check.due("pot what 8", law.pot(0, 0, 0, 8), -1);
        Check.due("pot 100", law.pot(0, 100, 0, 0), -1);
        Check.due("hunger, never", law.hunger(0, 0), -2);
        Check.due("hunger deed 2", law.hunger(0, 2), -1);
        Check.due("taste of none", Check.land(none).taste(0), 0);
        CookedLaw bare = Check.land("guest g 1; deed e 0 1;");
        Check.due("freest, no DISHES", bare.freest(0, 0), -2);
        Check.due("freest, no DISHES", bare.freest(0, 1), -2);
        Check.due("freest what 2", bare.freest(0, 2), -1);
        Check.due("freest guest 1", bare.freest(1, 0), -1);
        Check.due("taste, no DISHES", bare.taste(0), -2);
        Check.due("taste k 1", bare.taste(1), -1);
        Check.due("sure, no DISHES", bare.sure(0), -2);
        Check.due("sure k 1", bare.sure(1), -1);
        Check.due("blame, no DISHES", bare.blame(0), 0);
        Check.due("blame k 1", bare.blame(1), -1);
    }

    private static CookedLaw withTwenty() {
        CookedLaw law = lived();
        for (int i = 2; i < 20; i++) {
            Check.due("tell " + i, law.tell(i % 3, i % 10, i), i);
        }
        return law;
    }

    // .. and nothing happens: not in store; nothing is served; 20 are there; there is none to undo; the tape is full.
    private static void refusedOtherwise() {
        Check.refused("tell of a 21st", RefusedBoundsTest::withTwenty, law -> law.tell(0, 0, 0), -1);
        Check.Make fresh = () -> Check.land(LAND);
        Check.refused("eat, nothing is served", fresh, law -> law.eat(0), -2);
        Check.refused("eat, nothing is served", fresh, law -> law.eat(1), -2);
        Check.refused("undo of nothing", fresh, law -> bit(law.undo()), 0);
        Check.refused("restore of nothing", fresh, law -> bit(law.restore(0)), 0);
        Check.refused("forget of nothing", fresh, law -> law.forget(), 0);
        Check.Make gone = () -> {
            CookedLaw law = Check.land(LAND);
            law.cook(1);
            law.cook(1);
            return law;
        };
        Check.refused("cook, not in store", gone, law -> law.cook(1), -3);
        Check.Make newOne = CookedLaw::new;
        Check.refused("cook of a new object", newOne, law -> law.cook(0), -1);
        Check.refused("eat of a new object", newOne, law -> law.eat(0), -1);
        Check.refused("undo of a new object", newOne, law -> bit(law.undo()), 0);
        Check.refused("read of a new object", newOne, law -> law.read(), 0);
        Check.refused("days(-1) of a new object", newOne, law -> law.days(-1), -1);
    }

    // What would be (nothing happens ..).
    private static void questionsChangeNothing() {
        same("pot", law -> law.pot(3, 1, 4, 0));
        same("pinch", law -> law.pinch(0, 1));
        same("freest", law -> law.freest(0, 0));
        same("supper", law -> law.supper());
        same("feud", law -> law.feud(0, 0, 1));
        same("menu", law -> law.menu(0, 4, 3, -1));
        same("often", law -> law.often(0));
        same("hunger", law -> law.hunger(0, 1));
        same("stockIn", law -> law.stockIn(0, 60));
        same("boundIn", law -> law.boundIn(0, 1, 60));
        same("year", law -> law.year(0, 0, 5, 20));
        same("blame", law -> law.blame(2));
        same("sure", law -> law.sure(1));
        same("taste", law -> law.taste(1));
        same("food", law -> law.food(0, 0));
        same("dish", law -> law.dish(0, 5));
        same("amount", law -> law.amount(0, 0));
        same("guest", law -> law.guest(0, 5));
        same("deed", law -> law.deed(0, 2));
        same("count", law -> law.count(6));
        same("place", law -> law.place());
    }

    private static void same(String name, Check.Ask ask) {
        int once = ask.of(lived());
        Check.refused(name, RefusedBoundsTest::lived, ask, once);
        Check.refused(name + ", twice", RefusedBoundsTest::lived, law -> {
            ask.of(law);
            return ask.of(law);
        }, once);
    }

    // FOODS, 6 at most, DISHES, 5, GUESTS, 4, DEEDS, 6: the last of each is one, one more is none.
    private static void fullLand() {
        StringBuilder text = new StringBuilder();
        for (char c = 'a'; c < 'g'; c++) {
            text.append("food f").append(c).append(" 9 1 1 1 1; deed e").append(c).append(" 1 9;");
        }
        for (char c = 'a'; c < 'f'; c++) {
            text.append("dish d").append(c).append(" 1 ff;");
        }
        for (char c = 'a'; c < 'e'; c++) {
            text.append("guest g").append(c).append(" 7;");
        }
        CookedLaw law = Check.land(text.toString());
        int[][] answers = {{law.food(5, 0), 9}, {law.food(6, 0), -1}, {law.dish(4, 0), 1}, {law.dish(5, 0), -1},
            {law.amount(4, 5), 1}, {law.amount(4, 0), 0}, {law.amount(4, 6), -1}, {law.amount(5, 5), -1}, {law.guest(3, 0), 7},
            {law.guest(4, 0), -1}, {law.deed(5, 1), 9}, {law.deed(6, 1), -1}, {law.deed(5, 2), 15}, {law.pot(0, 0, 0, 7), 0},
            {law.pot(6, 0, 0, 2), 6}, {law.pinch(4, 1), 3}, {law.pinch(5, 1), -1}, {law.freest(3, 1), 6},
            {law.freest(4, 1), -1}, {law.supper(), 24}, {law.feud(3, 5, 4), 0}, {law.feud(4, 5, 4), -1},
            {law.feud(3, 6, 4), -1}, {law.feud(3, 5, 6), -1}, {law.menu(3, 4, 63, -1), 0}, {law.menu(3, 4, 64, -1), -1},
            {law.menu(4, 4, 63, -1), -1}, {law.often(4), 9}, {law.often(5), -1}, {law.hunger(3, 5), 0}, {law.hunger(4, 5), -1},
            {law.hunger(3, 6), -1}, {law.stockIn(5, 60), 9}, {law.stockIn(6, 60), -1}, {law.boundIn(3, 2, 60), 0},
            {law.boundIn(4, 2, 60), -1}, {law.year(4, 2, 1, 20), 20}, {law.year(5, 2, 1, 20), -1}, {law.cook(5), -1},
            {law.cook(4), -2}, {law.eat(4), -1}, {law.eat(3), 63}, {law.blame(0), 5 * 7}};
        for (int i = 0; i < answers.length; i++) {
            Check.due("full land, answer " + i, answers[i][0], answers[i][1]);
        }
    }

    // Of none there is no first one.
    private static void emptyLand() {
        CookedLaw law = Check.land("seed 7; force = 1; binds = 2; fills = 3; slips = 4;");
        int[] none = {law.food(0, 0), law.dish(0, 0), law.amount(0, 0), law.guest(0, 0), law.deed(0, 0), law.cook(0), law.eat(0),
            law.pinch(0, 0), law.freest(0, 0), law.feud(0, 0, 1), law.menu(0, 1, 0, -1), law.often(0), law.hunger(0, 0),
            law.stockIn(0, 0), law.boundIn(0, 0, 0), law.year(0, 0, 0, 1)};
        for (int i = 0; i < none.length; i++) {
            Check.due("empty land, answer " + i, none[i], -1);
        }
        Check.due("pot", law.pot(0, 0, 0, 0), -2);
        Check.due("supper", law.supper(), 0);
        Check.due("blame", law.blame(0), 0);
        Check.due("days", law.days(60), 60);
        Check.due("tell", law.tell(2, 9, 99), 0);
        CookedLaw guests = Check.land("guest g 1; food a 1 1 1 1 1; dish d 1 a;");
        Check.due("no DEEDS: eat", guests.eat(0), -2);
        guests.cook(0);
        Check.due("no DEEDS: eat", guests.eat(0), 0);
        Check.due("no DEEDS: menu set 0", guests.menu(0, 4, 0, -1), 0);
        Check.due("no DEEDS: menu set 1", guests.menu(0, 4, 1, -1), -1);
        Check.due("no DEEDS: freest", guests.freest(0, 0), 0);
        Check.due("no DEEDS: freest", guests.freest(0, 1), 0);
        Check.due("no DEEDS: supper", guests.supper(), 0);
        Check.due("no GUESTS: deed", Check.land("deed e 0 1;").deed(0, 2), 0);
    }
}
