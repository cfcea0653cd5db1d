/** Parts III and IV at their bounds, and which of alike ones is taken; above each method stands its sentence. */
public final class AskBoundsTest {
    public static void main(String[] args) {
        potAsToldOrMore();
        potOfOneToSix();
        potInStore();
        potOfAnyHeat();
        potOfAlikeOnes();
        pinchOfAlikeOnes();
        pinchAtTheHeld();
        freestOfAlikeOnes();
        supperOfAll();
        feudOfJustOne();
        menuDays();
        menuNone();
        menuOfAlikeOnes();
        menuStores();
        oftenBounds();
        oftenSlips();
        hungerBounds();
        inDays();
        yearBounds();
        yearSeeds();
        twentyTold();
        knownByNone();
        blameOneLess();
        blameOneMore();
        blameOfAll();
        sureOfAll();
        tasteAtWorst();
        tasteOfAlikeOnes();
        fortyUndone();
        undoneOneByOne();
        heldAndGoneOn();
        notHeld();
        counts();
        Check.end("AskBoundsTest");
    }

    private static void due(String call, long got, long want) {
        Check.due(call, got, want);
    }

    private static void due(String call, boolean got, boolean want) {
        Check.due(call, got, want);
    }

    /** All eight answers of a POT: -2 alone, or PRICES, HEAT, and how much of each FOOD. */
    private static void pot(CookedLaw law, int one, int two, int three, int... want) {
        for (int what = 0; what < 8; what++) {
            int due = want.length == 1 ? want[0] : what < want.length ? want[what] : 0;
            due("pot(" + one + ", " + two + ", " + three + ", " + what + ")", law.pot(one, two, three, what), due);
        }
    }

    // POT of told FORCES: .. each FORCE being as told or more.
    private static void potAsToldOrMore() {
        String[] foods = {"food a 1 1 5 0 0;", "food a 1 1 0 5 0;", "food a 1 1 0 0 5;"};
        for (int kind = 0; kind < 3; kind++) {
            CookedLaw law = Check.land(foods[kind]);
            int[] f = new int[3];
            for (int told = 0; told <= 5; told++) {
                f[kind] = told;
                pot(law, f[0], f[1], f[2], 1, 0, 1);
            }
            f[kind] = 6;
            pot(law, f[0], f[1], f[2], -2);
            f[kind] = 5;
            f[(kind + 1) % 3] = 1;
            pot(law, f[0], f[1], f[2], -2);
        }
        CookedLaw most = Check.land("food a 1 9 1 1 1; force = 99 + sum;");
        pot(most, 99, 99, 99, 9, 0, 1);
        CookedLaw less = Check.land("food a 1 9 1 1 1; force = 99 - sum;");
        pot(less, 98, 98, 98, 9, 0, 1);
        pot(less, 98, 99, 98, -2);
    }

    // by FOODS .. 1 to 6 in all.
    private static void potOfOneToSix() {
        CookedLaw law = Check.land("food a 9 1 1 0 0; food b 9 2 0 1 0;");
        pot(law, 0, 0, 0, 1, 0, 1);
        pot(law, 6, 0, 0, 6, 0, 6);
        pot(law, 7, 0, 0, -2);
        pot(law, 0, 6, 0, 12, 0, 0, 6);
        pot(law, 3, 3, 0, 9, 0, 3, 3);
        pot(law, 4, 3, 0, -2);
        pot(law, 5, 1, 0, 7, 0, 5, 1);
        // not none: a POT of what costs nothing has one
        pot(Check.land("food a 9 0 0 0 0;"), 0, 0, 0, 0, 0, 1);
        pot(Check.land("food a 9 1 0 0 0; force = 6 - many;"), 5, 0, 0, 1, 0, 1);
        pot(Check.land("food a 9 1 0 0 0; force = 6 - many;"), 6, 0, 0, -2);
        pot(Check.land("food a 9 1 0 0 0; force = many;"), 0, 0, 6, 6, 0, 6);
    }

    // by FOODS that are in store.
    private static void potInStore() {
        pot(Check.land("food a 0 1 1 1 1;"), 0, 0, 0, -2);
        pot(Check.land("food a 0 0 9 9 9; food b 1 9 1 1 1;"), 0, 0, 0, 9, 0, 0, 1);
        pot(Check.land("food a 1 1 1 1 1;"), 1, 0, 0, 1, 0, 1);
        pot(Check.land("food a 1 1 1 1 1;"), 2, 0, 0, -2);
        pot(Check.land("food a 5 1 1 1 1;"), 5, 5, 5, 5, 0, 5);
        pot(Check.land("food a 5 1 1 1 1;"), 6, 0, 0, -2);
        pot(Check.land("food a 99 1 1 1 1;"), 6, 0, 0, 6, 0, 6);
        // what is in store now, not what was told
        CookedLaw law = Check.land("food a 1 1 9 9 9; food b 9 5 9 9 9; dish d 1 a; fills = 1 - kind;");
        pot(law, 0, 0, 0, 1, 0, 1);
        law.cook(0);
        pot(law, 0, 0, 0, 5, 0, 0, 1);
        law.days(1);
        pot(law, 0, 0, 0, 1, 0, 1);
    }

    // and any HEAT.
    private static void potOfAnyHeat() {
        for (int heat = 0; heat <= 10; heat++) {
            CookedLaw least = Check.land("food a 9 3 1 1 1; force = if heat < " + heat + " then 0 else 50;");
            if (heat < 10) {
                pot(least, 50, 50, 50, 3, heat, 1);
            } else {
                pot(least, 50, 50, 50, -2);
            }
            CookedLaw just = Check.land("food a 9 3 1 1 1; force = if heat < " + heat + " then 0 else if " + heat
                    + " < heat then 0 else 50;");
            pot(just, 1, 0, 0, heat < 10 ? new int[] {3, heat, 1} : new int[] {-2});
        }
        pot(Check.land("food a 9 3 1 1 1; force = 50 / heat;"), 6, 0, 0, 3, 1, 1);
        pot(Check.land("food a 9 3 1 1 1; force = 9 - heat;"), 9, 0, 0, 3, 0, 1);
        pot(Check.land("food a 9 3 1 1 1; force = heat;"), 5, 0, 0, 3, 5, 1);
        pot(Check.land("food a 9 3 1 1 1; force = heat;"), 9, 9, 9, 3, 9, 1);
        pot(Check.land("food a 9 3 1 1 1; force = heat;"), 10, 0, 0, -2);
    }

    // the cheapest; of alike ones that with fewest FOODS, then with least HEAT, then with most of FOOD 0, of FOOD 1, ..
    private static void potOfAlikeOnes() {
        pot(Check.land("food a 9 6 6 0 0; food b 9 1 1 0 0;"), 6, 0, 0, 6, 0, 1);
        pot(Check.land("food a 9 7 6 0 0; food b 9 1 1 0 0;"), 6, 0, 0, 6, 0, 0, 6);
        pot(Check.land("food a 9 1 1 0 0; food b 9 6 6 0 0;"), 6, 0, 0, 6, 0, 0, 1);
        pot(Check.land("food a 9 0 1 0 0; food b 9 0 2 0 0; food c 9 0 3 0 0;"), 6, 0, 0, 0, 0, 0, 0, 2);
        pot(Check.land("food a 9 0 1 0 0; food b 9 0 2 0 0; food c 9 0 3 0 0;"), 5, 0, 0, 0, 0, 0, 1, 1);
        pot(Check.land("food a 9 0 1 0 0; food b 9 0 2 0 0; food c 9 0 3 0 0;"), 4, 0, 0, 0, 0, 1, 0, 1);
        // fewer FOODS though by more HEAT; less HEAT though by less of FOOD 0; cheaper though by more of both
        String heat = "force = if many < 2 then heat else 9;";
        pot(Check.land("food a 9 0 1 1 1;" + heat), 9, 0, 0, 0, 9, 1);
        String bySum = "force = sum * heat;";
        pot(Check.land("food a 9 1 1 0 0; food b 9 1 3 0 0;" + bySum), 6, 0, 0, 1, 2, 0, 1);
        pot(Check.land("food a 9 1 3 0 0; food b 9 1 1 0 0;" + bySum), 6, 0, 0, 1, 2, 1);
        pot(Check.land("food a 9 1 9 0 0; food b 9 0 1 0 0;" + bySum), 54, 0, 0, 0, 9, 0, 6);
        pot(Check.land("food a 9 1 9 0 0; food b 9 0 1 0 0;" + bySum), 55, 0, 0, 1, 7, 1);
        // most of FOOD 0, then of 1, and so on up to the last
        StringBuilder six = new StringBuilder();
        for (char c = 'a'; c < 'g'; c++) {
            six.append("food f").append(c).append(" 2 1 1 1 1;");
        }
        CookedLaw law = Check.land(six.toString());
        pot(law, 1, 0, 0, 1, 0, 1);
        pot(law, 2, 0, 0, 2, 0, 2);
        pot(law, 3, 0, 0, 3, 0, 2, 1);
        pot(law, 5, 0, 0, 5, 0, 2, 2, 1);
        pot(law, 6, 0, 0, 6, 0, 2, 2, 2);
        pot(Check.land("food a 1 1 1 0 0; food b 1 1 1 0 0; food c 1 1 1 0 0; food d 1 1 1 0 0; food e 1 1 1 0 0; food f 1 1 1 0 0;"),
                5, 0, 0, 5, 0, 1, 1, 1, 1, 1);
        pot(Check.land("food a 9 1 0 1 0; food b 9 1 1 0 0; food c 9 1 1 1 0;"), 2, 1, 0, 2, 0, 0, 1, 1);
        pot(Check.land("food a 9 1 1 1 0; food b 9 1 2 0 0; food c 9 1 0 2 0; food d 9 1 1 1 0;"), 2, 2, 0, 2, 0, 2);
    }

    // PINCH .. of alike ones the first.
    private static void pinchOfAlikeOnes() {
        for (int first = 0; first < 6; first++) {
            StringBuilder text = new StringBuilder();
            for (int i = 0; i < 6; i++) {
                text.append("food f").append((char) ('a' + i)).append(" 0 1 ")
                        .append(i < first ? "1 2 3;" : i % 2 == 0 ? "9 0 0;" : "0 4 5;");
            }
            CookedLaw law = Check.land(text + "dish d 1 fc;");
            due("the first of alike ones", law.pinch(0, 0), first);
            due("all changes added", law.pinch(0, 1), 9);
        }
        CookedLaw none = Check.land("food a 1 1 0 0 0; food b 1 1 0 0 0; dish d 1 b;");
        due("none changes anything: the first", none.pinch(0, 0), 0);
        due("none changes anything", none.pinch(0, 1), 0);
        CookedLaw but = Check.land("food a 1 1 1 1 1; dish d 1 a; force = 50 + many - sum;");
        due("there is but one FOOD, which changes nothing", but.pinch(0, 0), 0);
        due("it changes nothing", but.pinch(0, 1), 0);
        CookedLaw six = Check.land("food a 1 1 1 1 1; food b 1 1 0 0 0; dish d 1 b b b b b b; force = many * sum;");
        due("a 7th", six.pinch(0, 1), 21);
        due("a 7th", six.pinch(0, 0), 0);
    }

    // PINCH .. its FORCES (held to 0 .. 99).
    private static void pinchAtTheHeld() {
        CookedLaw high = Check.land("food a 1 1 9 0 0; food b 1 1 0 2 0; dish d 1 a; force = if 0 < kind then sum else 88 + sum;");
        due("97 and at most 99 alike", high.pinch(0, 0), 0);
        due("2 alone is changed", high.pinch(0, 1), 2);
        CookedLaw low = Check.land("food a 1 1 9 9 9; food b 1 1 0 1 0; dish d 1 a; force = 10 - sum;");
        due("from 1 to 0, not below", low.pinch(0, 1), 3);
        CookedLaw full = Check.land("food a 1 1 9 9 9; food b 1 1 0 1 0; dish d 1 a; force = 99 + sum;");
        due("99 already", full.pinch(0, 1), 0);
        CookedLaw most = Check.land("food a 1 1 1 1 1; food b 1 1 9 9 9; dish d 1 a; force = if sum < 2 then 0 else 99;");
        due("99 each", most.pinch(0, 1), 297);
        due("the first", most.pinch(0, 0), 0);
    }

    // FREEST: the DISH by which .. most DEEDS are free for it; of alike ones the first. -2: there are no DISHES.
    private static void freestOfAlikeOnes() {
        String deeds = "guest g 0; deed x 0 1; deed y 0 2; deed z 0 3; deed u 0 4; deed v 0 5; deed w 0 6;";
        String foods = "food a 0 1 1 0 0; food b 0 1 2 0 0; food c 0 1 9 0 0;";
        String[] dishes = {"dish d 1 a;", "dish d 1 b; dish e 1 a;", "dish d 1 a; dish e 1 b; dish f 1 a;", "dish d 1 c; dish e 1 c;",
            "dish d 1 c; dish e 1 b; dish f 1 b; dish h 1 a; dish i 1 a;",
            "dish d 1 c; dish e 1 c; dish f 1 c; dish h 1 c; dish i 1 b;"};
        int[] first = {0, 1, 0, 0, 3, 4};
        int[] many = {5, 5, 5, 0, 5, 4};
        for (int i = 0; i < dishes.length; i++) {
            CookedLaw law = Check.land(foods + dishes[i] + deeds);
            due("freest of " + dishes[i], law.freest(0, 0), first[i]);
            due("how many by " + dishes[i], law.freest(0, 1), many[i]);
        }
        due("all 6", Check.land("food a 1 1 0 0 0; dish d 1 a;" + deeds).freest(0, 1), 6);
        due("no DISHES", Check.land(deeds).freest(0, 0), -2);
        due("no DISHES", Check.land(deeds).freest(0, 1), -2);
    }

    // SUPPER: how many DEEDS are free for all GUESTS, together, if each eats its FREEST now. (0: no DISHES).
    private static void supperOfAll() {
        String dish = "food a 0 1 3 0 0; dish d 1 a; deed x 0 1; deed y 0 2; deed z 0 3; deed u 0 4; deed v 0 5; deed w 0 6;";
        due("no GUESTS", Check.land(dish).supper(), 0);
        due("one", Check.land(dish + "guest k 1;").supper(), 3);
        due("four", Check.land(dish + "guest k 1; guest l 1; guest m 1; guest n 1;").supper(), 12);
        due("no DISHES", Check.land("guest k 1; deed x 0 1;").supper(), 0);
        due("by PALATE", Check.land(dish + "guest k 0; guest l 1; guest m 5; binds = sum - palate;").supper(), 3 + 4 + 6);
        CookedLaw each = Check.land("food a 0 1 3 0 0; food b 0 1 0 3 0; dish d 1 a; dish e 1 b; deed x 0 1; deed y 1 1; deed z 1 1;"
                + "guest k 0; guest l 9; binds = if palate < 5 then sum else 3 - sum;");
        due("k by d", each.freest(0, 0), 0);
        due("l by e", each.freest(1, 0), 1);
        due("each by its own", each.supper(), 2 + 2);
    }

    // FEUD of two DEEDS: DISHES by which .. just one of both is free.
    private static void feudOfJustOne() {
        StringBuilder text = new StringBuilder("guest g 0; deed x 0 2; deed y 0 4; deed z 1 0; deed u 1 99;");
        String[] brings = {"1 0 0", "2 0 0", "3 0 0", "4 0 0", "0 0 0"};
        for (int i = 0; i < 5; i++) {
            text.append("food f").append((char) ('a' + i)).append(" 0 1 ").append(brings[i])
                    .append("; dish d").append((char) ('a' + i))
                    .append(" 1 f").append((char) ('a' + i)).append(';');
        }
        CookedLaw law = Check.land(text.toString());
        due("both, one, one, none, both", law.feud(0, 0, 1), 2 + 4);
        due("the other way round", law.feud(0, 1, 0), 2 + 4);
        due("always against never", law.feud(0, 2, 3), 31);
        due("never against x", law.feud(0, 2, 0), 1 + 16);
        due("always against x", law.feud(0, 3, 0), 2 + 4 + 8);
        due("no DISHES", Check.land("guest g 0; deed x 0 2; deed y 0 4;").feud(0, 0, 1), 0);
    }

    /** All answers of a MENU: none if nothing is told, else how many meals and each day's DISH. */
    private static void menu(CookedLaw law, int n, int set, int... want) {
        for (int i = -1; i < n; i++) {
            int due = want.length > 0 ? want[i + 1] : i < 0 ? -2 : -3;
            due("menu(0, " + n + ", " + set + ", " + i + ")", law.menu(0, n, set, i), due);
        }
    }

    // MENU for n days (1 .. 4) .. on each day, from this one on, .. all these DEEDS are free for it behind its meal.
    private static void menuDays() {
        String land = "food a 9 1 1 1 1; dish d 1 a; guest g 1; deed x 0 50;";
        // free up to so many days ago, then barred
        for (int days = 1; days <= 4; days++) {
            CookedLaw law = Check.land(land + "binds = if ago < " + days + " then 0 else 99;");
            law.cook(0);
            law.eat(0);
            for (int n = 1; n <= 4; n++) {
                int meals = (n - 1) / days;
                int[] want = new int[n + 1];
                want[0] = meals;
                for (int i = 0; i < n; i++) {
                    want[i + 1] = -2;
                }
                // each as early as it must be, and none first: as late as it can be on the first days
                for (int meal = meals, last = n; meal > 0; meal--) {
                    int at = Math.min(last - 1, meal * days);
                    want[at + 1] = 0;
                    last = at;
                }
                menu(law, n, 1, want);
            }
        }
        // barred on the first day by what was eaten, free behind a meal on it
        CookedLaw now = Check.land(land + "binds = if ago < 1 then 0 else 99;");
        menu(now, 4, 1, 0, -2, -2, -2, -2);
        now.cook(0);
        now.eat(0);
        now.days(1);
        menu(now, 1, 1, 1, 0);
        menu(now, 4, 1, 4, 0, 0, 0, 0);
        menu(now, 4, 0, 0, -2, -2, -2, -2);
    }

    // -2: there is no such MENU (i NONE), -3 (else).
    private static void menuNone() {
        String land = "food a 9 1 5 1 1; dish d 1 a; guest g 1; deed x 0 5; deed y 1 2; deed z 2 0; deed w 0 1;";
        CookedLaw law = Check.land(land);
        for (int n = 1; n <= 4; n++) {
            menu(law, n, 4);
            menu(law, n, 15);
        }
        menu(law, 1, 1, 0, -2);
        law.cook(0);
        law.eat(0);
        menu(law, 1, 1);
        menu(law, 2, 1);
        menu(law, 1, 2, 0, -2);
        menu(law, 4, 2, 0, -2, -2, -2, -2);
        law.days(1);
        menu(law, 4, 1, 0, -2, -2, -2, -2);
        menu(law, 4, 8);
        law.days(4);
        menu(law, 4, 8, 0, -2, -2, -2, -2);
        menu(law, 4, 11, 0, -2, -2, -2, -2);
        menu(law, 4, 12);
        // free on three days, on the fourth by no meal
        CookedLaw fourth = Check.land("food a 9 1 5 1 1; dish d 1 a; guest g 1; deed x 0 5; binds = if day < 3 then 4 else 5;");
        fourth.cook(0);
        fourth.eat(0);
        menu(fourth, 3, 1, 0, -2, -2, -2);
        menu(fourth, 4, 1);
        // who has never eaten is free by no meal, on each day
        menu(Check.land("food a 9 1 5 1 1; dish d 1 a; guest g 1; deed x 0 1; binds = 99;"), 4, 1, 0, -2, -2, -2, -2);
        menu(Check.land("guest g 1; deed x 0 1;"), 4, 1, 0, -2, -2, -2, -2);
        menu(Check.land("guest g 1; deed x 0 0;"), 4, 1);
    }

    // with fewest meals; of alike ones the first by the first day's DISH (none first), then the next one's.
    private static void menuOfAlikeOnes() {
        String deeds = "guest g 1; deed x 0 50; deed y 1 50;";
        // what brings 1 to FORCE 0 is free for two days, else for one; b is barred always
        String law = "binds = if 8 < sum then 99 else if ago < 1 + sum then 0 else 99;";
        String foods = "food b 9 1 9 9 9; food o 9 1 0 0 0; food t 9 1 1 1 1;";
        CookedLaw two = Check.land(foods + "dish p 1 b; dish q 1 o; dish r 1 t; dish s 1 t; dish u 1 o;" + deeds + law);
        two.cook(0);
        two.eat(0);
        menu(two, 1, 1, 1, 1);
        menu(two, 2, 1, 1, 2, -2);
        menu(two, 3, 1, 2, 1, 2, -2);
        menu(two, 4, 1, 2, 2, -2, 2, -2);
        two.undo();
        two.undo();
        two.cook(2);
        two.eat(0);
        menu(two, 2, 1, 0, -2, -2);
        menu(two, 3, 1, 1, -2, -2, 1);
        menu(two, 4, 1, 1, -2, -2, 2, -2);
        two.days(1);
        menu(two, 2, 1, 1, -2, 1);
        menu(two, 3, 1, 1, -2, 2, -2);
        menu(two, 4, 1, 2, -2, 1, 2, -2);
        // the last DISH alone
        CookedLaw last = Check.land(foods + "dish p 1 b; dish q 1 b; dish r 1 b; dish s 1 b; dish u 1 t;" + deeds + law);
        last.cook(0);
        last.eat(0);
        menu(last, 4, 3, 2, 4, -2, 4, -2);
        CookedLaw ones = Check.land(foods + "dish p 1 b; dish q 1 b; dish r 1 b; dish s 1 b; dish u 1 o;" + deeds + law);
        ones.cook(0);
        ones.eat(0);
        menu(ones, 4, 3, 4, 4, 4, 4, 4);
    }

    // stores not looked at.
    private static void menuStores() {
        CookedLaw law = Check.land("food a 0 1 0 0 0; food b 1 1 9 9 9; dish d 1 a; dish e 1 b; guest g 1; deed x 0 1;");
        law.cook(1);
        law.eat(0);
        due("not in store", law.cook(0), -3);
        menu(law, 1, 1, 1, 0);
        menu(law, 4, 1, 1, 0, -2, -2, -2);
    }

    // OFTEN: how many times on end a DISH can be COOKED now from what is in store.
    private static void oftenBounds() {
        for (int stock : new int[] {0, 1, 5, 6, 7, 11, 12, 13, 98, 99}) {
            for (int n = 1; n <= 6; n++) {
                CookedLaw law = Check.land("food a " + stock + " 1 1 1 1; dish d 1" + " a".repeat(n) + ";");
                due(n + " of " + stock, law.often(0), stock / n);
            }
        }
        CookedLaw two = Check.land("food a 9 1 1 1 1; food b 4 1 1 1 1; dish d 1 a b b; dish e 1 a; dish f 1 a a a b; fills = 1;");
        due("the scarcest", two.often(0), 2);
        due("the other", two.often(1), 9);
        due("3", two.often(2), 3);
        two.cook(0);
        due("now", two.often(0), 1);
        two.days(2);
        due("from what is in store now", two.often(0), 2);
    }

    // no slips but in COOKING: each time that it is COOKED, as by hand.
    private static void oftenSlips() {
        for (int seed = 0; seed < 60; seed++) {
            CookedLaw law = Check.land("food a 12 1 1 1 1; food b 7 1 1 1 1; dish d 1 a; dish e 1 a b; slips = 60; seed "
                    + seed * 166 + ";");
            for (int dish = 0; dish < 2; dish++) {
                int often = law.often(dish);
                int times = 0;
                while (law.cook(dish) >= -2) {
                    times++;
                }
                due("OFTEN of " + dish + " by SEED " + seed * 166, often, times);
                due("then", law.often(dish), 0);
                for (int i = 0; i < times; i++) {
                    law.undo();
                }
            }
        }
    }

    // HUNGER: behind how many days (0 .. 99) a DEED is free for a GUEST who eats nothing more. (0: now); -2: not.
    private static void hungerBounds() {
        for (int days : new int[] {0, 1, 2, 50, 98, 99, 100, 101, 200}) {
            CookedLaw law = Check.land("food a 9 1 1 1 1; dish d 1 a; guest g 1; deed x 0 50; binds = if ago < " + days
                    + " then 50 else 49;");
            due("who has eaten nothing", law.hunger(0, 0), 0);
            law.cook(0);
            law.eat(0);
            due("behind " + days, law.hunger(0, 0), days <= 99 ? days : -2);
            law.days(1);
            due("a day less than " + days, law.hunger(0, 0), days <= 100 ? Math.max(0, days - 1) : -2);
        }
        CookedLaw limits = Check.land("food a 9 1 9 9 9; dish d 1 a; guest g 1; deed x 1 0; deed y 1 1; deed z 1 9; deed w 1 10;");
        due("LIMIT 0", limits.hunger(0, 0), -2);
        due("LIMIT 1", limits.hunger(0, 1), 0);
        limits.cook(0);
        limits.eat(0);
        due("LIMIT 0", limits.hunger(0, 0), -2);
        due("LIMIT 1", limits.hunger(0, 1), 9);
        due("LIMIT 9", limits.hunger(0, 2), 1);
        due("LIMIT 10", limits.hunger(0, 3), 0);
        // the first day on which it is free, though it is barred later
        CookedLaw first = Check.land("food a 9 1 9 9 9; dish d 1 a; guest g 1; deed x 1 5;"
                + "binds = if ago < 3 then 9 else if ago < 5 then 1 else 9;");
        first.cook(0);
        first.eat(0);
        due("the first", first.hunger(0, 0), 3);
        first.days(5);
        due("not again", first.hunger(0, 0), -2);
    }

    // IN n DAYS (0 .. 60): the STOCK of a FOOD; by how much a GUEST is BOUND by a FORCE.
    private static void inDays() {
        String text = "food a 3 4 9 5 1; food b 50 2 1 1 1; dish d 1 a; guest g 3; deed x 0 1;"
                + "fills = if stock < 40 then day - price else 0 - day;"
                + "binds = sum * 3 - ago * palate + day / 7 + kind;";
        for (int n : new int[] {0, 1, 2, 30, 59, 60}) {
            CookedLaw law = Check.land(text);
            law.days(2);
            law.cook(0);
            law.eat(0);
            law.days(1);
            int[] ahead = {law.stockIn(0, n), law.stockIn(1, n), law.boundIn(0, 0, n), law.boundIn(0, 1, n), law.boundIn(0, 2, n)};
            due("the day", law.days(n), 3 + n);
            int[] then = {law.food(0, 0), law.food(1, 0), law.guest(0, 3), law.guest(0, 4), law.guest(0, 5)};
            for (int i = 0; i < 5; i++) {
                due("in " + n + " days, " + i, ahead[i], then[i]);
            }
        }
    }

    // YEAR .. a FORCE of it is f or more (f 0 .. 99). -2: not in store.
    private static void yearBounds() {
        CookedLaw law = Check.land("food a 2 1 5 0 9; dish d 1 a a; dish e 1 a a a;");
        int[] forces = {10, 0, 18};
        for (int kind = 0; kind < 3; kind++) {
            for (int s : new int[] {1, 2, 19, 20}) {
                due("0 or more", law.year(0, kind, 0, s), s);
                due("as it is", law.year(0, kind, forces[kind], s), s);
                due("1 more", law.year(0, kind, forces[kind] + 1, s), 0);
                due("99", law.year(0, kind, 99, s), 0);
            }
        }
        due("not in store", law.year(1, 0, 0, 1), -2);
        law.cook(0);
        due("not in store now", law.year(0, 0, 0, 1), -2);
        due("99 of 99", Check.land("food a 2 1 5 0 9; dish d 1 a; force = 100;").year(0, 1, 99, 20), 20);
        due("0 of 0", Check.land("food a 2 1 5 0 9; dish d 1 a; force = 0 - 1;").year(0, 1, 0, 20), 20);
        due("1 of 0", Check.land("food a 2 1 5 0 9; dish d 1 a; force = 0 - 1;").year(0, 1, 1, 20), 0);
    }

    // YEAR by s SEEDS (1 .. 20) from the text's SEED on: in how many of them.
    private static void yearSeeds() {
        String land = "food a 9 1 1 1 1; food b 5 1 3 1 1; dish d 1 a; slips = 55; seed ";
        for (int seed : new int[] {0, 1, 500, 9970, 9979}) {
            CookedLaw law = Check.land(land + seed + ";");
            int times = 0;
            for (int s = 1; s <= 20; s++) {
                CookedLaw one = Check.land(land + (seed + s - 1) + ";");
                one.cook(0);
                times += one.count(7) >= 4 ? 1 : 0;
                due(s + " SEEDS from " + seed, law.year(0, 0, 4, s), times);
            }
            law.cook(0);
            int later = 0;
            for (int s = 1; s <= 20; s++) {
                CookedLaw one = Check.land(land + (seed + s - 1) + ";");
                one.cook(0);
                one.cook(0);
                // b is in store in both, so that it is the same one that slips in
                later += one.count(7) >= 4 ? 1 : 0;
                due(s + " SEEDS from " + seed + ", COOKED once ahead", law.year(0, 0, 4, s), later);
            }
        }
    }

    // TOLD: .. 20 at most, numbered from 0 on. forget: how many there were.
    private static void twentyTold() {
        CookedLaw law = Check.land("food a 9 1 9 9 9; dish d 1 a;");
        for (int round = 0; round < 2; round++) {
            for (int i = 0; i < 20; i++) {
                due("tell " + i, law.tell(i % 3, i % 10, i < 19 ? 9 : 99), i);
                due("TOLD", law.count(12), i + 1);
            }
            due("a 21st", law.tell(0, 0, 9), -1);
            due("TOLD", law.count(12), 20);
            due("KNOWN by 19", law.blame(19), 1);
            due("KNOWN by 20", law.blame(20), 0);
            due("KNOWN by 21", law.blame(21), -1);
            due("SURE by 21", law.sure(21), -1);
            due("TASTE by 21", law.taste(21), -1);
            due("forget()", law.forget(), 20);
            due("forget()", law.forget(), 0);
            due("TOLD", law.count(12), 0);
            due("KNOWN by 1", law.blame(1), -1);
        }
        // the bounds of what it was, and of HEAT
        CookedLaw held = Check.land("food a 9 1 9 9 9; dish d 1 a; force = if heat < 9 then 0 else 99;");
        held.tell(2, 9, 99);
        held.tell(2, 8, 0);
        held.tell(0, 0, 0);
        due("all so", held.blame(3), 2);
        held.tell(1, 9, 98);
        due("98 is not 99", held.blame(4), 0);
    }

    // KNOWN by k: the first k.
    private static void knownByNone() {
        CookedLaw law = Check.land("food a 9 1 1 2 3; food b 9 1 4 5 6; dish d 1 a b; dish e 1 b b b;");
        law.tell(0, 0, 99);
        due("KNOWN by 0: all", law.blame(0), 5 + 4);
        due("KNOWN by 1: none", law.blame(1), 0);
        due("SURE by 0", law.sure(0), -2);
        due("SURE by 1: none", law.sure(1), -2);
        due("TASTE by 1: none is left", law.taste(1), -2);
        law.forget();
        law.tell(0, 0, 12);
        law.tell(0, 0, 5);
        law.tell(0, 0, 12);
        due("by 1", law.blame(1), 1);
        due("SURE by 1", law.sure(1), 1);
        due("by 2", law.blame(2), 0);
        due("by 3", law.blame(3), 0);
        due("by 1 still", law.blame(1), 1);
    }

    // or with one less of one that is in it (but 1 at least in all).
    private static void blameOneLess() {
        String foods = "food a 0 1 1 0 0; food b 0 1 0 1 0; food c 0 1 0 0 1;";
        String[] dishes = {"dish d 1 a;", "dish d 1 a a;", "dish d 1 a b;", "dish d 1 a b c;",
            "dish d 1 a a b b c c;", "dish d 1 a a a a a a;"};
        int[] less = {0, 1, 2, 3, 3, 1};
        for (int i = 0; i < dishes.length; i++) {
            CookedLaw law = Check.land(foods + dishes[i]);
            due("of " + dishes[i], law.blame(0), 1 + 3 + less[i]);
        }
        CookedLaw one = Check.land("food a 0 1 1 1 1; dish d 1 a;");
        one.tell(0, 0, 0);
        due("none at all is no POT", one.blame(1), 0);
        CookedLaw two = Check.land("food a 0 1 1 1 1; dish d 1 a a;");
        two.tell(0, 0, 1);
        due("1 is left", two.blame(1), 1);
        CookedLaw many = Check.land("food a 0 1 1 1 1; food b 0 1 1 1 1; dish d 1 a b; force = many;");
        many.tell(0, 0, 1);
        due("less a, less b", many.blame(1), 2);
        many.tell(0, 0, 2);
        due("both", many.blame(2), 0);
        many.forget();
        many.tell(0, 0, 2);
        due("as it is told", many.blame(1), 1);
        many.forget();
        many.tell(0, 0, 3);
        due("more a, more b", many.blame(1), 2);
    }

    // of each DISH of the text: 5 of 6 FOODS, 13 ways each.
    private static void blameOfAll() {
        StringBuilder text = new StringBuilder();
        for (int i = 0; i < 6; i++) {
            text.append("food f").append((char) ('a' + i)).append(" 0 1 ").append(i < 5 ? "0 0 " + i : "9 0 5").append(';');
        }
        for (int i = 0; i < 5; i++) {
            text.append("dish d").append((char) ('a' + i)).append(" 1 fa fb fc fd fe ff;");
        }
        CookedLaw law = Check.land(text.toString());
        due("all", law.blame(0), 65);
        // FORCE 2: 15, each one more, each one less: each alone but for the DISH, and but for the FOOD that brings 0
        due("FORCE 2 leaves 3 ways of each DISH", law.taste(0), 20);
        int[] was = {9, 10, 11, 14, 15, 16, 19, 20, 21};
        int[] left = {0, 5, 5, 5, 15, 5, 5, 5, 0};
        for (int i = 0; i < was.length; i++) {
            law.tell(2, 0, was[i]);
            due("left of " + was[i], law.blame(1), left[i]);
            due("SURE of " + was[i], law.sure(1), -2);
            law.forget();
        }
        law.tell(0, 0, 0);
        due("less the last FOOD", law.blame(1), 5);
        law.forget();
        law.tell(0, 0, 18);
        due("more of the last FOOD", law.blame(1), 5);
    }

    // with one more of one FOOD.
    private static void blameOneMore() {
        for (int foods = 1; foods <= 6; foods++) {
            StringBuilder text = new StringBuilder();
            for (int i = 0; i < foods; i++) {
                text.append("food f").append((char) ('a' + i)).append(" 0 1 ").append(i).append(" 1 1;");
            }
            CookedLaw law = Check.land(text + "dish d 1 fa fa fa fa fa fa;");
            due("of " + foods, law.blame(0), 1 + foods + 1);
            law.tell(1, 0, 7);
            due("with 7", law.blame(1), foods);
            law.tell(0, 0, foods - 1);
            due("of the last FOOD", law.blame(2), 1);
        }
        CookedLaw most = Check.land("food a 0 1 9 1 1; dish d 1 a a a a a a; force = sum + 36;");
        most.tell(0, 0, 99);
        due("63 and 36", most.blame(1), 1);
    }

    // SURE: which DISH it was in all of them. -2: this or that one, none.
    private static void sureOfAll() {
        CookedLaw law = Check.land("food a 0 1 1 0 0; food b 0 1 3 0 0; dish d 1 a; dish e 1 a a b; dish f 1 b b b b b;");
        // d: 1, 2, 4; e: 5, 6, 8, 4, 2; f: 15, 16, 18, 12
        int[] was = {0, 1, 2, 4, 5, 6, 8, 12, 15, 16, 18, 19};
        int[] sure = {-2, 0, -2, -2, 1, 1, 1, 2, 2, 2, 2, -2};
        int[] left = {0, 1, 2, 2, 1, 1, 1, 1, 1, 1, 1, 0};
        for (int i = 0; i < was.length; i++) {
            law.tell(0, 0, was[i]);
            due("left of " + was[i], law.blame(1), left[i]);
            due("SURE of " + was[i], law.sure(1), sure[i]);
            law.forget();
        }
        CookedLaw alone = Check.land("food a 0 1 1 0 0; food b 0 1 3 0 0; dish d 1 a b b;");
        due("there is but one DISH", alone.sure(0), 0);
        due("in 5 ways", alone.blame(0), 5);
        CookedLaw alike = Check.land("food a 0 1 1 0 0; dish d 1 a; dish e 1 a;");
        due("alike DISHES", alike.sure(0), -2);
        due("each counts", alike.blame(0), 4);
    }

    // TASTE: .. of which, once it is known, fewest are left, at worst.
    private static void tasteAtWorst() {
        // FORCE 0: 4 5 4 3 4: 3 alike; FORCE 1: 2 2 3 2 1: 3 alike
        CookedLaw law = Check.land("food a 0 1 1 0 0; food b 0 1 0 1 0; dish d 1 a a a a b b;");
        due("alike, the first", law.taste(0), 0);
        CookedLaw second = Check.land("food a 0 1 1 1 0; food b 0 1 0 3 0; dish d 1 a a b b;");
        // FORCE 0: 2 3 2 1 2: 3 alike; FORCE 1: 8 9 11 7 5: each alone
        due("FORCE 1", second.taste(0), 10);
        CookedLaw third = Check.land("food a 0 1 1 1 1; food b 0 1 0 0 3; dish d 1 a a b b;");
        due("FORCE 2", third.taste(0), 20);
        // sums 2 3 1 and 4 5 3: divided by 5 they are 0 but for one, by 4 but for two
        CookedLaw halves = Check.land("food a 0 1 1 0 0; dish d 1 a a; dish e 1 a a a a;"
                + "force = if heat < 5 then sum / 5 else sum / 4;");
        due("4 at worst, not 5", halves.taste(0), 5);
        // below HEAT 5: 1, 2, 3 3 4, 5 apart; from it on: 1 2, 3 3, 4 5: fewer ways apart, but fewer are left at worst
        CookedLaw ways = Check.land("food a 0 1 1 0 0; dish d 1 a a; dish e 1 a a a a; force = if 0 < kind then 0 else "
                + "if sum < 3 then sum * (1 - heat / 5) else if sum < 5 - heat / 5 then 7 else 9;");
        due("2 at worst, not 3", ways.taste(0), 5);
        CookedLaw pair = Check.land("food a 0 1 0 1 0; dish d 1 a;");
        due("two by FORCE 0, one by FORCE 1", pair.taste(0), 10);
        StringBuilder all = new StringBuilder("force = if 0 < kind then sum else if many < 1 then 0 else 50;");
        for (int i = 0; i < 6; i++) {
            all.append("food f").append((char) ('a' + i)).append(" 0 1 0 ").append(i + 1).append(" 0;");
        }
        for (int i = 0; i < 5; i++) {
            all.append("dish d").append((char) ('a' + i)).append(" 1 fa fb fc fd fe ff;");
        }
        due("of all 65, FORCE 1 leaves 5", Check.land(all.toString()).taste(0), 10);
        CookedLaw ten = Check.land("food a 0 1 1 1 1; dish d 1 a a; force = if heat < 10 then 5 else sum;");
        due("there is no HEAT 10", ten.taste(0), 0);
        CookedLaw far = Check.land("food a 0 1 1 1 1; dish d 1 a a a;"
                + "force = if kind < 2 then 0 else if heat < 9 then 7 else 95 + sum;");
        due("the last of all: 98, 99, 97", far.taste(0), 29);
        far.tell(2, 9, 97);
        due("one is left: the first", far.taste(1), 0);
        far.tell(2, 9, 98);
        due("none is left", far.taste(2), -2);
    }

    // TASTE: of alike ones the first by FORCE, then by HEAT.
    private static void tasteOfAlikeOnes() {
        for (int high : new int[] {0, 1, 97, 98, 99}) {
            CookedLaw law = Check.land("food a 0 1 1 1 1; dish d 1 a a; force = if heat < 7 then " + high + " else 50 + sum;");
            due("all are " + high + " below HEAT 7", law.taste(0), 7);
        }
        for (int kind = 0; kind < 3; kind++) {
            for (int heat = 0; heat < 10; heat++) {
                CookedLaw law = Check.land("food a 0 1 1 1 1; dish d 1 a a; force = if kind < " + kind
                        + " then 5 else if heat < " + heat + " then 5 else sum;");
                due("from FORCE " + kind + ", HEAT " + heat + " on", law.taste(0), 10 * kind + heat);
                law.tell(kind, heat, 2);
                due("one is left: all are alike", law.taste(1), 0);
            }
        }
        CookedLaw later = Check.land("food a 0 1 1 1 1; dish d 1 a a; force = if kind < 1 then (heat / 9) * sum else sum;");
        due("FORCE 0 at HEAT 9 is ahead of FORCE 1", later.taste(0), 9);
    }

    // undo: false: there is none (the last 40 can be).
    private static void fortyUndone() {
        for (int done : new int[] {0, 1, 39, 40, 41, 80, 81, 100}) {
            CookedLaw law = new CookedLaw();
            for (int i = 0; i < done; i++) {
                law.days(1);
            }
            int can = Math.min(40, done);
            due("things that can be undone of " + done, law.count(11), can);
            for (int i = 1; i <= can; i++) {
                due("undo " + i + " of " + done, law.undo(), true);
                due("day", law.count(4), done - i);
            }
            due("one more of " + done, law.undo(), false);
            due("nothing happens", law.count(4), done - can);
            due("none can be", law.count(11), 0);
            law.days(2);
            due("one can be again", law.count(11), 1);
            due("undo", law.undo(), true);
            due("day", law.count(4), done - can);
        }
    }

    // The last thing done (cook, eat, days) is undone.
    private static void undoneOneByOne() {
        CookedLaw law = Check.land("food a 9 2 1 2 3; food b 9 3 4 5 6; dish d 1 a; dish e 2 b a; guest g 1; guest h 2; deed x 0 3;"
                + "fills = 1 + kind; slips = 70; seed 12; binds = sum + ago;");
        String[] seen = new String[9];
        int[][] things = {{0, 0}, {1, 0}, {2, 3}, {0, 1}, {1, 1}, {1, 0}, {2, 1}, {0, 1}};
        for (int i = 0; i < things.length; i++) {
            seen[i] = counted(law);
            int arg = things[i][1];
            int answer = things[i][0] == 0 ? law.cook(arg) : things[i][0] == 1 ? law.eat(arg) : law.days(arg);
            due("thing " + i, answer == -1, false);
        }
        for (int i = things.length - 1; i >= 0; i--) {
            due("undo of thing " + i, law.undo(), true);
            due("as ahead of thing " + i, counted(law).equals(seen[i]), true);
        }
        due("there is none", law.undo(), false);
    }

    private static String counted(CookedLaw law) {
        StringBuilder all = new StringBuilder();
        for (int what = 0; what < 16; what++) {
            all.append(law.count(what)).append(' ');
        }
        for (int i = 0; i < 2; i++) {
            all.append(law.food(i, 0)).append(' ').append(law.dish(i, 6)).append(' ');
            for (int what = 1; what < 6; what++) {
                all.append(law.guest(i, what)).append(' ');
            }
        }
        return all.toString();
    }

    // hold, restore: It goes on from what a SLOT holds (that stays there; nothing can be undone then).
    private static void heldAndGoneOn() {
        CookedLaw law = Check.land("food a 9 2 1 2 3; dish d 1 a; guest g 1; guest h 2; deed x 0 3; fills = 1; slips = 70; seed 12;");
        String[] held = new String[3];
        for (int slot = 0; slot < 3; slot++) {
            law.cook(0);
            law.eat(slot % 2);
            law.days(1 + slot);
            due("hold(" + slot + ")", law.hold(slot), true);
            due("SLOTS", law.count(13), slot + 1);
            due("can be undone still", law.count(11), 3 * (slot + 1));
            held[slot] = gone(law);
        }
        law.tell(1, 1, 1);
        for (int slot : new int[] {2, 0, 1, 0, 2}) {
            due("restore(" + slot + ")", law.restore(slot), true);
            due("as held in " + slot, gone(law).equals(held[slot]), true);
            due("nothing can be undone", law.count(11), 0);
            due("undo()", law.undo(), false);
            due("what is TOLD stays", law.count(12), 1);
            due("SLOTS stay", law.count(13), 3);
            law.days(5);
            law.cook(0);
            law.eat(1);
            due("what is done since can be", law.count(11), 3);
        }
        due("held again", law.hold(0), true);
        held[0] = gone(law);
        law.days(9);
        due("restore(0)", law.restore(0), true);
        due("as held at last", gone(law).equals(held[0]), true);
        due("SLOTS", law.count(13), 3);
        due("restore(1)", law.restore(1), true);
        due("the others are as they were", gone(law).equals(held[1]), true);
    }

    // hold: All that goes on (not what is TOLD, nor the tape).
    private static void notHeld() {
        CookedLaw law = Check.land("food a 9 2 1 2 3; dish d 1 a; guest g 1; deed x 0 3;");
        Check.feed(law, "&");
        due("read()", law.read(), 1);
        law.cook(0);
        law.tell(0, 0, 1);
        Check.feed(law, "guest g");
        law.hold(1);
        law.tell(0, 0, 2);
        Check.feed(law, " 10;");
        law.cook(0);
        due("undo()", law.undo(), true);
        due("restore(1)", law.restore(1), true);
        due("TOLD", law.count(12), 2);
        due("KNOWN by 1: as told", law.blame(1), 1);
        due("KNOWN by 2: none", law.blame(2), 0);
        due("bytes", law.count(10), 11);
        due("place()", law.place(), 0);
        due("read() of all that was fed", law.read(), 5);
        due("place()", law.place(), 8);
        due("restore(1)", law.restore(1), true);
        due("place() stays", law.place(), 8);
        due("the tape stays empty", law.count(10), 0);
    }

    private static String gone(CookedLaw law) {
        StringBuilder all = new StringBuilder();
        for (int what : new int[] {4, 5, 6, 7, 8, 9, 14, 15}) {
            all.append(law.count(what)).append(' ');
        }
        all.append(law.food(0, 0)).append(' ').append(law.dish(0, 6)).append(' ');
        for (int guest = 0; guest < 2; guest++) {
            for (int what = 1; what < 6; what++) {
                all.append(law.guest(guest, what)).append(' ');
            }
        }
        return all.toString();
    }

    // count: 4 the day, .. 6 the DISH that is served (-2: none), 7, 8, 9 FORCES .. (0: nothing), .. 11 things .., 13 SLOTS ..
    private static void counts() {
        CookedLaw law = Check.land("food a 99 9 9 8 7; dish d 1 a a a a a a; dish e 1 a; guest g 1; guest h 1; deed x 0 3;");
        int[] none = {1, 2, 2, 1, 0, 0, -2, 0, 0, 0, 0, 0, 0, 0, 0, 0};
        for (int what = 0; what < 16; what++) {
            due("count(" + what + ") at first", law.count(what), none[what]);
        }
        for (int i = 0; i < 16; i++) {
            due("cook", law.cook(0), -2);
        }
        due("not in store", law.cook(0), -3);
        for (int i = 0; i < 3; i++) {
            due("the last ones", law.cook(1), -2);
        }
        due("not in store", law.cook(1), -3);
        for (int i = 0; i < 30; i++) {
            law.eat(i % 2);
        }
        law.days(60);
        law.days(60);
        int[] due = {1, 2, 2, 1, 120, 99 * 9, 1, 9, 8, 7, 0, 40, 0, 0, 19, 30};
        for (int what = 0; what < 16; what++) {
            due("count(" + what + ")", law.count(what), due[what]);
        }
        due("meals of g", law.guest(0, 2), 15);
        due("cooked d", law.dish(0, 6), 16);
        due("cooked e", law.dish(1, 6), 3);
        due("days ago", law.guest(1, 1), 120);
    }
}
