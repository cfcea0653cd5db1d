import java.util.ArrayList;
import java.util.List;
import java.util.Random;

/** Random runs of calls, each answered by CookedLaw and by Model. Argument: how many runs. */
public final class FuzzTest {
    // An object is used for at most 512 calls; a text takes up to 110 of them, other steps up to 30.
    private static final int CALLS = 512;
    private static final int OF_A_TEXT = 110;
    private static final int OF_A_STEP = 30;
    private static final String[] VARS = {"sum", "heat", "kind", "many", "day", "palate", "ago", "stock", "price"};
    private static final String[] TOKENS = {"food", "dish", "guest", "deed", "force", "binds", "fills", "slips", "seed", "if",
        "then", "else", "sum", "heat", ";", "=", "+", "-", "*", "/", "<", "(", ")", "a", "b", "zz", "abcdefgh",
        "abcdefghi", "7", "99", "100", "1234", "12345", "0", "&", "A", ".", "\u00e9", "\u0000", "\u000b"};

    private final Random random;
    private CookedLaw real = new CookedLaw();
    private Model model = new Model();
    private final StringBuilder trace = new StringBuilder();
    private boolean wrong;
    private int made;

    private FuzzTest(long seed) {
        random = new Random(seed);
    }

    public static void main(String[] args) {
        int runs = args.length > 0 ? Integer.parseInt(args[0]) : 600;
        int bad = 0;
        for (int i = 0; i < runs && bad < 5; i++) {
            FuzzTest fuzz = new FuzzTest(i);
            fuzz.run(i);
            if (fuzz.wrong) {
                bad++;
                System.out.println("run " + i + ":\n" + fuzz.trace);
            }
        }
        System.out.println("FuzzTest: " + runs + " runs, " + bad + " wrong");
        if (bad > 0) {
            System.exit(1);
        }
    }

    private int below(int n) {
        return random.nextInt(n);
    }

    private String pick(String... of) {
        return of[below(of.length)];
    }

    private void run(int number) {
        int calls = 40 + below(200);
        for (int i = 0; number % 10 != 0 && i < 8 && (have(1) == 0 || have(2) == 0); i++) {
            text();
        }
        for (int i = 0; i < calls && !wrong && made < CALLS - 2 * OF_A_STEP; i++) {
            call();
        }
        for (int what = -1; what < 17 && !wrong; what++) {
            due("count(" + what + ")", real.count(what), model.count(what));
        }
    }

    private int have(int what) {
        made++;
        return real.count(what);
    }

    private void due(String call, long got, long want) {
        made++;
        trace.append(call).append(" = ").append(want);
        if (got != want) {
            wrong = true;
            trace.append(" BUT GOT ").append(got);
        }
        trace.append('\n');
    }

    private static long bit(boolean b) {
        return b ? 1 : 0;
    }

    // ---- Texts

    private void text() {
        if (made > CALLS - OF_A_TEXT - 2 * OF_A_STEP) {
            return;
        }
        String text = below(12) == 0 ? noise() : tells();
        if (below(12) == 0) {
            text = spoiled(text);
        }
        if (text.length() > 1990) {
            text = text.substring(0, 1990);
        }
        trace.append("text: ").append(text.replace('\n', ' ')).append('\n');
        int bytes = have(10);
        if (bytes > 0 && below(10) > 0) {
            due("back(" + bytes + ")", real.back(bytes), model.back(bytes));
        }
        feed(text);
        due("read()", real.read(), model.read());
        due("place()", real.place(), model.place());
    }

    private void feed(String text) {
        int pad = (20 - text.length() % 20) % 20;
        String padded = text + " ".repeat(pad);
        for (int i = 0; i < padded.length(); i += 20) {
            int[] w = new int[5];
            for (int j = 0; j < 20; j++) {
                w[j / 4] = w[j / 4] << 8 | padded.charAt(i + j);
            }
            due("feed", real.feed(w[0], w[1], w[2], w[3], w[4]), model.feed(w[0], w[1], w[2], w[3], w[4]));
        }
        due("back(" + pad + ")", real.back(pad), model.back(pad));
    }

    private String noise() {
        StringBuilder s = new StringBuilder();
        int n = below(3) == 0 ? 380 + below(40) : below(60);
        for (int i = 0; i < n; i++) {
            s.append(pick(TOKENS)).append(pick(" ", " ", " ", "", "\n", "\t", "\r"));
        }
        return s.toString();
    }

    private String spoiled(String text) {
        StringBuilder s = new StringBuilder(text);
        for (int i = 1 + below(2); i > 0 && s.length() > 0; i--) {
            int at = below(s.length());
            switch (below(4)) {
                case 0 -> s.deleteCharAt(at);
                case 1 -> s.insert(at, pick(TOKENS));
                case 2 -> s.setCharAt(at, (char) below(256));
                default -> s.setLength(at);
            }
        }
        return s.toString();
    }

    private String tells() {
        List<String> tells = new ArrayList<>();
        int foods = below(25) == 0 ? 7 : 1 + below(6);
        int dishes = below(25) == 0 ? 6 : below(8) == 0 ? 0 : 1 + below(5);
        int guests = below(25) == 0 ? 5 : below(8) == 0 ? 0 : 1 + below(4);
        int deeds = below(25) == 0 ? 7 : below(7);
        for (int i = 0; i < foods; i++) {
            tells.add("food f" + letter(i) + number(below(2) == 0 ? 99 : 12) + number(9) + number(9) + number(9) + number(9));
        }
        for (int i = 0; i < dishes && foods > 0; i++) {
            StringBuilder dish = new StringBuilder("dish d" + letter(i) + number(9));
            for (int n = below(40) == 0 ? 7 : 1 + below(below(3) == 0 ? 6 : 3); n > 0; n--) {
                dish.append(" f").append(letter(below(below(200) == 0 ? 7 : foods)));
            }
            tells.add(dish.toString());
        }
        for (int i = 0; i < guests; i++) {
            tells.add("guest g" + letter(below(30) == 0 ? 0 : i) + number(9));
        }
        for (int i = 0; i < deeds; i++) {
            tells.add("deed e" + letter(i) + number(2) + number(below(4) == 0 ? 99 : 15));
        }
        law(tells, "force", 3, "sum", "heat", "kind", "many", "day");
        law(tells, "binds", 3, "sum", "kind", "palate", "ago", "day");
        law(tells, "fills", 3, "stock", "price", "kind", "day");
        law(tells, "slips", 3, "heat", "many", "day");
        if (below(2) == 0) {
            tells.add("seed" + number(9999));
        }
        if (below(15) == 0 && tells.size() > 1) {
            tells.add(tells.remove(below(tells.size())));
        }
        StringBuilder s = new StringBuilder();
        for (String tell : tells) {
            s.append(tell).append(pick(";", " ;", "; ", ";\n"));
        }
        return s.toString();
    }

    private static char letter(int i) {
        return (char) ('a' + i);
    }

    private String number(int most) {
        int n = below(700) == 0 ? most + 1 + below(3) : below(most + 1);
        return (below(20) == 0 ? " 0" : " ") + n;
    }

    private void law(List<String> tells, String name, int odds, String... vars) {
        if (below(odds + 1) == 0) {
            return;
        }
        StringBuilder s = new StringBuilder(name).append(" = ");
        int ifs = below(60) == 0 ? 5 : below(3) == 0 ? 1 + below(4) : 0;
        for (int i = 0; i < ifs; i++) {
            s.append("if ");
            sum(s, vars, 1);
            s.append(" < ");
            sum(s, vars, 1);
            s.append(" then ");
            sum(s, vars, 1);
            s.append(" else ");
        }
        if (name.equals("slips") && below(2) == 0) {
            s.append(pick("50", "100", "99 + heat", "30 + heat * 9"));
        } else {
            sum(s, vars, below(80) == 0 ? 9 : 3);
        }
        tells.add(s.toString());
    }

    private void sum(StringBuilder s, String[] vars, int deep) {
        int n = below(2) == 0 ? 1 : 1 + below(3);
        for (int i = 0; i < n; i++) {
            if (i > 0) {
                s.append(pick(" + ", "-", " * ", "/", "+", "-"));
            }
            int kind = below(10);
            if (deep > 3 || kind == 0 && deep > 0) {
                s.append("(");
                sum(s, vars, deep - 1);
                s.append(")");
            } else if (kind < 5) {
                s.append(below(20) == 0 ? 9999 : below(12));
            } else {
                s.append(below(12) == 0 ? pick(VARS) : pick(vars));
            }
        }
    }

    // ---- Calls

    /** Below n for the most part, else beside it or far off. */
    private int arg(int n) {
        if (below(200) == 0) {
            return below(3) == 0 ? Integer.MIN_VALUE : below(2) == 0 ? Integer.MAX_VALUE : random.nextInt();
        }
        return below(30) == 0 ? below(3) - 1 + (below(2) == 0 ? n : 0) : n > 0 ? below(n) : 0;
    }

    private void call() {
        switch (below(44)) {
            case 0 -> {
                if (below(16) == 0) {
                    text();
                }
            }
            case 1 -> {
                int a = random.nextInt();
                int b = random.nextInt();
                due("feed(" + a + ", " + b + ",1,2,3)", real.feed(a, b, 1, 2, 3), model.feed(a, b, 1, 2, 3));
            }
            case 2 -> {
                int n = below(100) == 0 ? arg(1) : below(30) - 2;
                due("back(" + n + ")", real.back(n), model.back(n));
            }
            case 3 -> {
                if (below(8) == 0) {
                    due("read()", real.read(), model.read());
                }
                due("place()", real.place(), model.place());
            }
            case 4, 5, 6, 7 -> look();
            case 8, 9, 10, 11, 12, 13 -> {
                int d = arg(have(1));
                due("cook(" + d + ")", real.cook(d), model.cook(d));
            }
            case 14, 15, 16, 17, 18 -> {
                int g = arg(have(2));
                due("eat(" + g + ")", real.eat(g), model.eat(g));
            }
            case 19, 20, 21 -> {
                int n = below(3) == 0 ? arg(61) : below(3);
                due("days(" + n + ")", real.days(n), model.days(n));
            }
            case 22, 23 -> due("undo()", bit(real.undo()), bit(model.undo()));
            case 24, 25, 26 -> told();
            case 27 -> {
                int slot = below(30) == 0 ? arg(1) : below(5) - 1;
                due("hold(" + slot + ")", bit(real.hold(slot)), bit(model.hold(slot)));
            }
            case 28 -> {
                int slot = below(30) == 0 ? arg(1) : below(5) - 1;
                due("restore(" + slot + ")", bit(real.restore(slot)), bit(model.restore(slot)));
            }
            case 29, 30 -> {
                int what = below(50) == 0 ? arg(1) : below(18) - 1;
                due("count(" + what + ")", real.count(what), model.count(what));
            }
            default -> wouldBe();
        }
    }

    private void look() {
        int food = arg(have(0));
        int dish = arg(have(1));
        int guest = arg(have(2));
        int deed = arg(have(3));
        int what = below(50) == 0 ? arg(1) : below(9) - 1;
        due("food(" + food + ", " + what + ")", real.food(food, what), model.food(food, what));
        due("dish(" + dish + ", " + what + ")", real.dish(dish, what), model.dish(dish, what));
        due("amount(" + dish + ", " + food + ")", real.amount(dish, food), model.amount(dish, food));
        due("guest(" + guest + ", " + what + ")", real.guest(guest, what), model.guest(guest, what));
        due("deed(" + deed + ", " + what + ")", real.deed(deed, what), model.deed(deed, what));
    }

    private void told() {
        int k = arg(have(12) + 1);
        switch (below(8)) {
            case 0 -> {
                if (below(6) == 0) {
                    due("forget()", real.forget(), model.forget());
                }
            }
            case 1, 2, 3 -> {
                int force = arg(3);
                int heat = arg(10);
                int is = below(2) == 0 ? arg(100) : real.dish(0, 3 + Math.floorMod(force, 3));
                due("tell(" + force + ", " + heat + ", " + is + ")", real.tell(force, heat, is), model.tell(force, heat, is));
            }
            case 4, 5 -> due("blame(" + k + ")", real.blame(k), model.blame(k));
            case 6 -> due("sure(" + k + ")", real.sure(k), model.sure(k));
            default -> due("taste(" + k + ")", real.taste(k), model.taste(k));
        }
    }

    private void wouldBe() {
        int food = arg(have(0));
        int dish = arg(have(1));
        int guest = arg(have(2));
        int deed = arg(have(3));
        switch (below(10)) {
            case 0 -> {
                int a = below(2) == 0 ? 0 : arg(below(2) == 0 ? 100 : 20);
                int b = below(2) == 0 ? 0 : arg(below(2) == 0 ? 100 : 20);
                int c = below(2) == 0 ? 0 : arg(below(2) == 0 ? 100 : 20);
                for (int what = 0; what < 8; what++) {
                    due("pot(" + a + ", " + b + ", " + c + ", " + what + ")", real.pot(a, b, c, what), model.pot(a, b, c, what));
                }
                int what = arg(8);
                due("pot(.., " + what + ")", real.pot(a, b, c, what), model.pot(a, b, c, what));
            }
            case 1 -> {
                int what = arg(2);
                due("pinch(" + dish + ", " + what + ")", real.pinch(dish, what), model.pinch(dish, what));
            }
            case 2 -> {
                int what = arg(2);
                due("freest(" + guest + ", " + what + ")", real.freest(guest, what), model.freest(guest, what));
                due("supper()", real.supper(), model.supper());
            }
            case 3 -> {
                int other = arg(have(3));
                due("feud(" + guest + ", " + deed + ", " + other + ")", real.feud(guest, deed, other),
                        model.feud(guest, deed, other));
            }
            case 4, 5 -> {
                int n = below(50) == 0 ? arg(4) : 1 + below(4);
                int set = below(2) == 0 ? arg(1 << have(3)) : have(3) > 0 ? 1 << below(have(3)) : 0;
                for (int i = -2; i <= 4; i++) {
                    due("menu(" + guest + ", " + n + ", " + set + ", " + i + ")", real.menu(guest, n, set, i),
                            model.menu(guest, n, set, i));
                }
            }
            case 6 -> {
                due("often(" + dish + ")", real.often(dish), model.often(dish));
                due("hunger(" + guest + ", " + deed + ")", real.hunger(guest, deed), model.hunger(guest, deed));
            }
            case 7 -> {
                int n = arg(61);
                due("stockIn(" + food + ", " + n + ")", real.stockIn(food, n), model.stockIn(food, n));
            }
            case 8 -> {
                int n = below(2) == 0 ? arg(5) : arg(61);
                int force = arg(3);
                due("boundIn(" + guest + ", " + force + ", " + n + ")", real.boundIn(guest, force, n),
                        model.boundIn(guest, force, n));
            }
            default -> {
                int force = arg(3);
                int f = arg(below(2) == 0 ? 100 : 15);
                int s = below(50) == 0 ? arg(21) : 1 + below(20);
                due("year(" + dish + ", " + force + ", " + f + ", " + s + ")", real.year(dish, force, f, s),
                        model.year(dish, force, f, s));
            }
        }
    }
}
