/** Part II at its bounds, LAWS and what is done by hand; above each method stands the sentence that it holds the class to. */
public final class LawBoundsTest {
    private static final String[] VARS = {"sum", "heat", "kind", "many", "day", "palate", "ago", "stock", "price"};
    private static final String MIN = "(8192*8192*32)";
    private static final String MAX = "(8192*8192*32-1)";

    public static void main(String[] args) {
        firstIfThatHolds();
        lessThanTheOther();
        wraps();
        towardsZero();
        dividedByZero();
        dividedByZeroInEachLaw();
        varsOfForce();
        varsOfBinds();
        varsOfFills();
        varsOfSlips();
        forcesAreHeld();
        bindsAreHeld();
        bindsNotTold();
        whoHasEatenNothing();
        limits();
        limitsNow();
        fourGuests();
        lots();
        inStore();
        slipsNotTold();
        slipsAreHeld();
        lessThanSlips();
        inStoreYet();
        sevenInAPot();
        servedInPlaceOfWhatWas();
        fillsAreHeld();
        stocksAreHeld();
        byHowAllWas();
        Check.end("LawBoundsTest");
    }

    private static void due(String call, long got, long want) {
        Check.due(call, got, want);
    }

    /** FORCE 0 of a POT of HEAT 3 with 2 FOODS that bring 4 together, on day 0. */
    private static int force(String law) {
        return Check.land("food a 9 1 1 2 3; food b 9 1 3 2 1; dish d 3 a b; force = " + law + ";").dish(0, 3);
    }

    private static void alike(String one, String other) {
        due(one + " is " + other, force("if " + one + " < " + other + " then 1 else if " + other + " < " + one
                + " then 2 else 3"), 3);
    }

    private static void holds(String one, String other, boolean less) {
        due(one + " < " + other, force("if " + one + " < " + other + " then 1 else 2"), less ? 1 : 2);
    }

    // LAWS: the E of the first if that holds, else the last one.
    private static void firstIfThatHolds() {
        for (int bits = 0; bits < 16; bits++) {
            StringBuilder law = new StringBuilder();
            for (int i = 0; i < 4; i++) {
                law.append("if ").append(bits >> i & 1).append(" < 1 then ").append(10 + i).append(" else ");
            }
            int first = 14;
            for (int i = 3; i >= 0; i--) {
                first = (bits >> i & 1) == 0 ? 10 + i : first;
            }
            due("ifs " + bits, force(law + "14"), first);
        }
        due("no if", force("14"), 14);
    }

    // (one less than the other)
    private static void lessThanTheOther() {
        holds("3", "4", true);
        holds("4", "4", false);
        holds("5", "4", false);
        holds("0-1", "0", true);
        holds("0", "0-1", false);
        holds("0-2", "0-1", true);
        holds("0-1", "0-1", false);
        holds(MIN, MAX, true);
        holds(MAX, MIN, false);
        holds(MIN, "1", true);
        holds("1", MIN, false);
        holds(MAX, "0-1", false);
        holds("0-1", MAX, true);
        holds(MAX + "-1", MAX, true);
        holds(MIN, MIN + "+1", true);
    }

    // Ints of 32 bits that wrap.
    private static void wraps() {
        holds(MIN, "0", true);
        holds("0", MAX, true);
        alike(MAX + "+1", MIN);
        alike(MIN + "-1", MAX);
        alike("0-" + MIN, MIN);
        alike(MIN + "+" + MIN, "0");
        alike(MAX + "+" + MAX, "0-2");
        alike(MIN + "-" + MAX, "1");
        alike(MAX + "-" + MIN, "0-1");
        alike(MAX + "*" + MAX, "1");
        alike(MIN + "*" + MIN, "0");
        alike(MIN + "*(0-1)", MIN);
        alike(MAX + "*2", "0-2");
        alike("256*256*256*256", "0");
        alike("256*256*256*128", MIN);
        holds("9999*9999*22", "0", true);
        alike("9999*9999*21-" + MAX, "0-(" + MAX + "-9999*9999*21)");
        due("back by a wrap", force(MAX + "+50-" + MAX), 50);
        due("back by the other wrap", force(MIN + "-50-" + MAX + "+98"), 49);
        due("a wrapped number is held to 0", force(MAX + "+1"), 0);
        due("a wrapped number is held to 99", force(MIN + "-1"), 99);
    }

    // / rounded towards 0.
    private static void towardsZero() {
        alike("7/2", "3");
        alike("(0-7)/2", "0-3");
        alike("7/(0-2)", "0-3");
        alike("(0-7)/(0-2)", "3");
        alike("1/2", "0");
        alike("(0-1)/2", "0");
        alike("1/(0-2)", "0");
        alike("0/5", "0");
        alike("6/3", "2");
        alike("(0-6)/3", "0-2");
        alike("(0-99)/100", "0");
        alike("(0-100)/100", "0-1");
        alike(MIN + "/(0-1)", MIN);
        alike(MIN + "/1", MIN);
        alike(MIN + "/" + MIN, "1");
        alike(MIN + "/" + MAX, "0-1");
        alike(MAX + "/" + MIN, "0");
        alike(MIN + "/2", "0-8192*8192*16");
    }

    // A LAW in which something that is looked at is divided by 0 is 0.
    private static void dividedByZero() {
        due("1/0", force("1/0"), 0);
        due("0/0", force("0/0"), 0);
        due("5+1/0", force("5+1/0"), 0);
        due("1/0+5", force("1/0+5"), 0);
        due("by 0 that is reckoned", force("5+1/(3-3)"), 0);
        due("by 0 that wraps", force("5+1/(256*256*256*256)"), 0);
        due("by what is divided to 0", force("5+1/(1/2)"), 0);
        due("by what is divided by 0", force("5+1/(1/0)"), 0);
        due("times 0", force("5+0*(1/0)"), 0);
        due("in the first side", force("if 1/0 < 1 then 5 else 6"), 0);
        due("in the other side", force("if 0 < 1/0 then 5 else 6"), 0);
        due("in the E that is taken", force("if 0 < 1 then 5/0 else 6"), 0);
        due("in the E that is not taken", force("if 1 < 1 then 5/0 else 6"), 6);
        due("in the last E, not taken", force("if 0 < 1 then 5 else 6/0"), 5);
        due("in the last E, taken", force("if 1 < 1 then 5 else 6/0"), 0);
        due("in a later if, not looked at", force("if 0 < 1 then 5 else if 1/0 < 1 then 6 else 7"), 5);
        due("in a later if, looked at", force("if 1 < 1 then 5 else if 1/0 < 1 then 6 else 7"), 0);
        due("in the 4th if", force("if 1<1 then 5 else if 1<1 then 6 else if 1<1 then 7 else if 1/0<1 then 8 else 9"), 0);
        due("by 1", force("5/1"), 5);
        due("by less than 0", force("0-5/(0-1)"), 5);
    }

    private static void dividedByZeroInEachLaw() {
        CookedLaw law = Check.land("food a 9 0 7 7 7; dish d 0 a; guest g 0; deed e 0 1; force = 5 + 1/heat; binds = 5 + 1/palate;"
                + "fills = 5 + 1/price; slips = 100 + 1/heat;");
        due("FORCE is 0", law.dish(0, 3), 0);
        due("SLIPS is 0", law.cook(0), -2);
        due("BINDS is 0", law.eat(0), 1);
        law.days(1);
        due("FILLS is 0", law.food(0, 0), 8);
        due("BINDS is 0 still", law.guest(0, 3), 0);
    }

    // A VAR not told for a LAW is 0 in it; day for all. FORCE: sum, heat, kind, many.
    private static void varsOfForce() {
        int[] asTold = {42, 4, 2, 6, 3, 0, 0, 0, 0};
        int[] ofSeven = {49, 4, 2, 7, 3, 0, 0, 0, 0};
        for (int i = 0; i < VARS.length; i++) {
            CookedLaw law = lived("force = " + VARS[i] + ";");
            due("FORCE 2 by " + VARS[i], law.dish(0, 5), asTold[i]);
            due("FORCE 2 of the POT of 7 by " + VARS[i], law.count(9), ofSeven[i]);
        }
        for (int kind = 0; kind < 3; kind++) {
            due("kind", lived("force = kind + 5;").dish(0, 3 + kind), kind + 5);
        }
    }

    // BINDS (sum: that FORCE; kind; palate; ago: how many days ago).
    private static void varsOfBinds() {
        int[] due = {49, 0, 2, 0, 8, 6, 5, 0, 0};
        for (int i = 0; i < VARS.length; i++) {
            CookedLaw law = lived("binds = " + VARS[i] + ";");
            law.eat(1);
            law.days(5);
            due("BOUND by FORCE 2 by " + VARS[i], law.guest(1, 5), due[i]);
            due("BOUND, in 0 days, by " + VARS[i], law.boundIn(1, 2, 0), due[i]);
            boolean goesOn = VARS[i].equals("day") || VARS[i].equals("ago");
            due("BOUND, in 9 days, by " + VARS[i], law.boundIn(1, 2, 9), due[i] + (goesOn ? 9 : 0));
        }
    }

    // FILLS (stock; price; kind: the FOOD's number).
    private static void varsOfFills() {
        // b had 5 on day 0, and four days went by
        int[] fourDays = {5, 5, 9, 5, 11, 5, 5, 37, 37};
        int[] oneDay = {5, 5, 6, 5, 5, 5, 5, 10, 13};
        int[] oneDayOfA = {2, 2, 2, 2, 2, 2, 2, 4, 9};
        for (int i = 0; i < VARS.length; i++) {
            CookedLaw law = lived("fills = " + VARS[i] + ";");
            law.days(1);
            due("STOCK of b by " + VARS[i], law.food(1, 0), fourDays[i]);
            CookedLaw once = Check.land("food a 2 7 1 1 1; food b 5 8 1 1 1; fills = " + VARS[i] + ";");
            due("STOCK of b by " + VARS[i] + " behind day 0", once.stockIn(1, 1), oneDay[i]);
            due("STOCK of a by " + VARS[i] + " behind day 0", once.stockIn(0, 1), oneDayOfA[i]);
        }
    }

    // SLIPS (heat, many).
    private static void varsOfSlips() {
        int[] due = {0, 4, 0, 6, 3, 0, 0, 0, 0};
        for (int i = 0; i < VARS.length; i++) {
            // LOT 100 of the SEED is 0, so that it slips by 1 or more
            CookedLaw law = lived("slips = " + VARS[i] + " - " + due[i] + ";");
            due("by " + VARS[i] + " less " + due[i], law.count(7), 6);
            CookedLaw more = lived("slips = " + VARS[i] + " - " + due[i] + " + 1;");
            due("by " + VARS[i] + " less " + due[i] + " and 1 more", more.count(7), 7);
        }
    }

    /** On day 3, a DISH of HEAT 4 with 6 FOODS a is COOKED, and one more a slips in by SLIPS of 1 or more. */
    private static CookedLaw lived(String laws) {
        CookedLaw law = Check.land("slips = 1; seed " + seedOf(0, 2, 0) + "; food a 20 9 1 1 7; food b 5 8 1 1 1;"
                + "dish d 4 a a a a a a; guest f 9; guest g 6; deed e 0 1;" + laws);
        law.days(3);
        law.cook(0);
        return law;
    }

    // Its FORCES .. held to 0 .. 99.
    private static void forcesAreHeld() {
        int[] values = {-100, -1, 0, 1, 98, 99, 100, 9999};
        for (int value : values) {
            int held = Math.max(0, Math.min(99, value));
            String law = value < 0 ? "0-" + -value : "" + value;
            CookedLaw land = Check.land("food a 9 1 1 1 1; dish d 1 a; guest g 1; deed e 1 1; force = " + law + ";");
            for (int kind = 0; kind < 3; kind++) {
                due("FORCE of " + value, land.dish(0, 3 + kind), held);
            }
            land.cook(0);
            due("FORCE served of " + value, land.count(8), held);
            land.eat(0);
            due("BOUND by " + value, land.guest(0, 4), held);
            due("YEAR by " + value, land.year(0, 1, held, 3), 3);
            due("YEAR by more than " + value, held == 99 ? 0 : land.year(0, 1, held + 1, 3), 0);
            due("POT of " + value, land.pot(held, held, held, 0), 1);
            due("POT of more than " + value, held == 99 ? -2 : land.pot(0, 0, held + 1, 0), -2);
        }
        // the most that FOODS bring: 7 times 9
        CookedLaw most = Check.land("food a 9 1 9 9 9; dish d 1 a a a a a a; slips = 100; force = sum * 2 - 27;");
        due("54 * 2 - 27", most.dish(0, 3), 81);
        most.cook(0);
        due("63 * 2 - 27", most.count(7), 99);
    }

    // BINDS, held to 0 .. 99.
    private static void bindsAreHeld() {
        int[] values = {-100, -1, 0, 1, 98, 99, 100, 9999};
        for (int value : values) {
            int held = Math.max(0, Math.min(99, value));
            String law = value < 0 ? "0-" + -value : "" + value;
            CookedLaw land = Check.land("food a 9 1 1 1 1; dish d 1 a; guest g 1; deed e 0 99; deed f 0 1; binds = " + law + ";");
            land.cook(0);
            due("free by " + value, land.eat(0), (held < 99 ? 1 : 0) + (held < 1 ? 2 : 0));
            for (int kind = 0; kind < 3; kind++) {
                due("BOUND by " + value, land.guest(0, 3 + kind), held);
                due("boundIn by " + value, land.boundIn(0, kind, 60), held);
            }
        }
    }

    // Not told: that FORCE less ago.
    private static void bindsNotTold() {
        CookedLaw law = Check.land("food a 9 1 3 0 9; dish d 1 a; guest g 9; deed e 0 1;");
        law.cook(0);
        law.eat(0);
        int[] forces = {3, 0, 9};
        for (int ago = 0; ago < 12; ago++) {
            for (int kind = 0; kind < 3; kind++) {
                due("ago " + ago, law.guest(0, 3 + kind), Math.max(0, forces[kind] - ago));
                due("boundIn 1 of ago " + ago, law.boundIn(0, kind, 1), Math.max(0, forces[kind] - ago - 1));
            }
            law.days(1);
        }
    }

    // Who has eaten nothing yet is BOUND by 0.
    private static void whoHasEatenNothing() {
        CookedLaw law = Check.land("food a 9 1 3 3 3; dish d 1 a; guest g 9; guest h 9; deed e 0 1; deed f 0 0; binds = 50;");
        law.days(7);
        law.cook(0);
        for (int kind = 0; kind < 3; kind++) {
            due("BOUND ahead of a meal", law.guest(0, 3 + kind), 0);
            due("BOUND in 60 days ahead of a meal", law.boundIn(0, kind, 60), 0);
        }
        due("free for both", law.deed(0, 2), 3);
        due("LIMIT 0: free for none", law.deed(1, 2), 0);
        due("HUNGER", law.hunger(0, 0), 0);
        law.eat(0);
        due("BOUND behind it", law.guest(0, 3), 50);
        due("h is not", law.guest(1, 3), 0);
        due("free for h", law.deed(0, 2), 2);
        law.undo();
        due("g is not again", law.guest(0, 3), 0);
        due("free for both", law.deed(0, 2), 3);
    }

    // A DEED is BARRED for a GUEST if it is BOUND by the DEED's FORCE by its LIMIT or more; else it is free.
    private static void limits() {
        for (int bound : new int[] {0, 1, 50, 98, 99}) {
            CookedLaw law = Check.land("food a 9 1 3 3 3; dish d 1 a; guest g 9; deed p 1 " + bound + "; deed q 1 "
                    + Math.min(99, bound + 1) + "; deed r 1 " + Math.max(0, bound - 1) + "; deed s 0 99; deed t 0 0;"
                    + "deed u 2 99; binds = if kind < 1 then 0 else if 1 < kind then 98 else " + bound + ";");
            law.cook(0);
            int free = (bound < 99 ? 2 : 0) + 8 + 32;
            due("free by " + bound, law.eat(0), free);
            for (int deed = 0; deed < 6; deed++) {
                due("GUESTS for whom " + deed + " is free by " + bound, law.deed(deed, 2), free >> deed & 1);
            }
        }
        // by the DEED's own FORCE
        CookedLaw law = Check.land("food a 9 1 3 5 7; dish d 1 a; guest g 9; deed x 0 3; deed y 0 4; deed z 1 5; deed u 1 6;"
                + "deed v 2 7; deed w 2 8;");
        law.cook(0);
        due("LIMITS of each FORCE", law.eat(0), 2 + 8 + 32);
    }

    // BARRED .. else it is free: as it is now, not a day later.
    private static void limitsNow() {
        CookedLaw law = Check.land("food a 9 1 3 3 3; dish d 1 a; guest g 9; deed x 0 3; deed y 1 4;");
        law.cook(0);
        due("free now", law.eat(0), 2);
        due("BARRED today", law.deed(0, 2), 0);
        due("free today", law.deed(1, 2), 1);
        law.days(1);
        due("free a day later", law.deed(0, 2), 1);
        CookedLaw later = Check.land("food a 9 1 3 3 3; dish d 1 a; guest g 9; deed x 0 3; binds = ago * 3;");
        later.cook(0);
        later.eat(0);
        due("free today", later.deed(0, 2), 1);
        later.days(1);
        due("BARRED a day later", later.deed(0, 2), 0);
    }

    // BOUND by a FORCE of what it ate last: each of 4 GUESTS, by each of 3 FORCES.
    private static void fourGuests() {
        CookedLaw law = Check.land("food a 9 1 1 2 3; food b 9 1 4 5 6; dish p 1 a; dish q 1 b; dish r 1 a a; dish s 1 a b;"
                + "guest k 1; guest l 1; guest m 1; guest n 1; deed x 0 2;");
        int[][] forces = {{1, 2, 3}, {4, 5, 6}, {2, 4, 6}, {5, 7, 9}};
        for (int round = 0; round < 2; round++) {
            for (int guest = 0; guest < 4; guest++) {
                law.cook((guest + round) % 4);
                law.eat(guest);
            }
            for (int guest = 0; guest < 4; guest++) {
                for (int kind = 0; kind < 3; kind++) {
                    due("GUEST " + guest + ", FORCE " + kind, law.guest(guest, 3 + kind), forces[(guest + round) % 4][kind]);
                }
                due("meals", law.guest(guest, 2), round + 1);
            }
            due("GUESTS for whom it is free", law.deed(0, 2), round == 0 ? 1 : 8);
        }
    }

    // LOT n of a SEED and a which.
    private static int lot(int n, int seed, int which) {
        long h = seed;
        for (long it : new long[] {103, which}) {
            h = ((h ^ it) * 1103515245L + 12345L) % 4294967296L;
            h = h ^ h / 32768;
        }
        return (int) (h / 2 % n);
    }

    private static void lots() {
        due("LOT 100 of SEED 0", lot(100, 0, 0), 19);
        int[] seeds = {0, 1, 2, 7, 99, 4711, 9998, 9999};
        for (int seed : seeds) {
            for (int foods : new int[] {1, 2, 6}) {
                StringBuilder text = new StringBuilder("seed " + seed + "; slips = 100;");
                for (int i = 0; i < foods; i++) {
                    text.append("food f").append((char) ('a' + i)).append(" 99 1 1 1 1;");
                }
                CookedLaw law = Check.land(text + "dish d 1 fa; dish e 1 fa;");
                for (int cooked = 0; cooked < 12; cooked++) {
                    due("cook " + cooked + " of SEED " + seed, law.cook(cooked % 2), lot(foods, seed, 8 * cooked + 1));
                }
                // how often DISHES were COOKED ahead: less by what is undone
                law.undo();
                law.undo();
                due("again the 11th", law.cook(1), lot(foods, seed, 81));
            }
        }
    }

    // Its FOODS must be in store; they go, their PRICES are paid.
    private static void inStore() {
        for (int n = 1; n <= 6; n++) {
            String dish = "dish d 1" + " a".repeat(n) + ";";
            CookedLaw just = Check.land("food a " + n + " 9 1 1 1;" + dish);
            due("just " + n, just.cook(0), -2);
            due("none is left", just.food(0, 0), 0);
            due("paid", just.count(5), 9 * n);
            due("no more", just.cook(0), -3);
            String text = "food a " + (n - 1) + " 9 1 1 1; guest g 1; deed e 0 1;" + dish;
            Check.refused("cook(0) with one less than " + n, () -> Check.land(text), law -> law.cook(0), -3);
        }
        CookedLaw second = Check.land("food a 9 1 1 1 1; food b 1 0 1 1 1; dish d 1 a b b; dish e 1 a b;");
        due("of each one", second.cook(0), -3);
        due("paid nothing", second.count(5), 0);
        due("the other", second.cook(1), -2);
        due("paid, PRICE 0", second.count(5), 1);
        due("of the second one none is left", second.cook(1), -3);
    }

    // SLIPS (0), if not told: LOT 100 is never less.
    private static void slipsNotTold() {
        int low = seedOf(0, 1, 0);
        String land = "food a 9 1 1 1 1; dish d 1 a; seed " + low + ";";
        due("LOT 0, SLIPS not told", Check.land(land).cook(0), -2);
        due("LOT 0, SLIPS 0", Check.land(land + "slips = 0;").cook(0), -2);
        due("LOT 0, SLIPS 1", Check.land(land + "slips = 1;").cook(0), 0);
        due("YEAR, SLIPS not told", Check.land(land).year(0, 0, 2, 1), 0);
        due("YEAR, SLIPS 1", Check.land(land + "slips = 1;").year(0, 0, 2, 1), 1);
    }

    // SLIPS, held to 0 .. 100.
    private static void slipsAreHeld() {
        int high = seedOf(99, 1, 0);
        int low = seedOf(0, 1, 0);
        due("LOT 99", lot(100, high, 0), 99);
        due("LOT 0", lot(100, low, 0), 0);
        String[] slips = {"0-9999", "0-1", "0", "1", "99", "100", "101", "9999", "8192*8192*32", "8192*8192*32-1"};
        boolean[] byLow = {false, false, false, true, true, true, true, true, false, true};
        boolean[] byHigh = {false, false, false, false, false, true, true, true, false, true};
        for (int i = 0; i < slips.length; i++) {
            String land = "food a 9 1 1 1 1; dish d 1 a; slips = " + slips[i] + "; seed ";
            due("LOT 0, SLIPS " + slips[i], Check.land(land + low + ";").cook(0), byLow[i] ? 0 : -2);
            due("LOT 99, SLIPS " + slips[i], Check.land(land + high + ";").cook(0), byHigh[i] ? 0 : -2);
        }
    }

    /** A SEED of which the first LOT 100 is as told, and one of so many FOODS too. */
    private static int seedOf(int lot, int foods, int food) {
        for (int seed = 0; seed <= 9999; seed++) {
            if (lot(100, seed, 0) == lot && lot(foods, seed, 1) == food) {
                return seed;
            }
        }
        return -1;
    }

    // If LOT 100 .. is less than SLIPS.
    private static void lessThanSlips() {
        for (int seed = 0; seed < 10000; seed += 97) {
            int lot = lot(100, seed, 0);
            String land = "food a 9 1 1 1 1; dish d 1 a; seed " + seed + "; slips = ";
            due("alike, SEED " + seed, Check.land(land + lot + ";").cook(0), -2);
            due("less, SEED " + seed, Check.land(land + (lot + 1) + ";").cook(0), 0);
        }
    }

    // One more .. slips in, if it is in store yet (it goes, nothing is paid).
    private static void inStoreYet() {
        for (int stock = 3; stock < 6; stock++) {
            CookedLaw law = Check.land("food a " + stock + " 7 1 2 3; dish d 1 a a a; slips = 100;");
            due("slips of " + stock, law.cook(0), stock > 3 ? 0 : -2);
            due("left of " + stock, law.food(0, 0), stock > 3 ? stock - 4 : 0);
            due("paid", law.count(5), 21);
            due("FORCE", law.count(8), stock > 3 ? 8 : 6);
            due("as told", law.dish(0, 4), 6);
        }
        // one that is not in the DISH
        int seed = 0;
        while (lot(2, seed, 1) != 1) {
            seed++;
        }
        for (int stock = 0; stock < 3; stock++) {
            CookedLaw law = Check.land("food a 9 7 1 2 3; food b " + stock + " 9 4 4 4; dish d 1 a; slips = 100; seed " + seed + ";");
            due("slips of other " + stock, law.cook(0), stock > 0 ? 1 : -2);
            due("left of other " + stock, law.food(1, 0), Math.max(0, stock - 1));
            due("left of a", law.food(0, 0), 8);
            due("paid", law.count(5), 7);
            due("FORCE", law.count(7), stock > 0 ? 5 : 1);
        }
    }

    // A POT may have 7 then.
    private static void sevenInAPot() {
        CookedLaw law = Check.land("food a 9 1 9 0 1; dish d 2 a a a a a a; slips = 100; guest g 1; deed e 0 1;"
                + "force = if kind < 2 then sum else many;");
        due("slips", law.cook(0), 0);
        due("FORCE 0 of 7", law.count(7), 63);
        due("many", law.count(9), 7);
        due("many as told", law.dish(0, 5), 6);
        due("left", law.food(0, 0), 2);
        law.eat(0);
        due("BOUND by 7", law.guest(0, 3), 63);
    }

    // What is COOKED is served, in place of what was. A GUEST EATS what is served.
    private static void servedInPlaceOfWhatWas() {
        CookedLaw law = Check.land("food a 9 1 1 2 3; food b 9 1 4 5 6; dish d 1 a; dish e 1 b; guest g 1; guest h 1; deed x 0 99;");
        due("nothing is served", law.count(6), -2);
        for (int kind = 0; kind < 3; kind++) {
            due("FORCE of nothing", law.count(7 + kind), 0);
        }
        law.cook(1);
        law.eat(0);
        due("b", law.guest(0, 3), 4);
        law.cook(0);
        due("a is served", law.count(6), 0);
        due("b still", law.guest(0, 3), 4);
        law.eat(1);
        due("a", law.guest(1, 3), 1);
        law.eat(0);
        due("a too: what is served stays", law.guest(0, 3), 1);
        due("a is served still", law.count(6), 0);
        law.days(60);
        due("and on other days", law.eat(1), 1);
        due("from this day on", law.guest(1, 3), 1);
    }

    // FILLS .. held to -9 .. 9.
    private static void fillsAreHeld() {
        String[] fills = {"0-9999", "0-10", "0-9", "0-8", "0-1", "0", "1", "8", "9", "10", "9999", "8192*8192*32",
            "8192*8192*32-1"};
        int[] due = {-9, -9, -9, -8, -1, 0, 1, 8, 9, 9, 9, -9, 9};
        for (int i = 0; i < fills.length; i++) {
            CookedLaw law = Check.land("food a 50 1 1 1 1; fills = " + fills[i] + ";");
            due("stockIn by " + fills[i], law.stockIn(0, 1), 50 + due[i]);
            law.days(1);
            due("STOCK by " + fills[i], law.food(0, 0), 50 + due[i]);
        }
    }

    // STOCK is as much more as FILLS tells (.. 0 to 99).
    private static void stocksAreHeld() {
        for (int by = -9; by <= 9; by++) {
            String fills = "fills = " + (by < 0 ? "0-" + -by : "" + by) + ";";
            for (int stock : new int[] {0, 1, 8, 9, 10, 89, 90, 91, 98, 99}) {
                CookedLaw law = Check.land("food a " + stock + " 1 1 1 1;" + fills);
                int due = Math.max(0, Math.min(99, stock + by));
                due("stockIn " + stock + " by " + by, law.stockIn(0, 1), due);
                law.days(1);
                due("STOCK " + stock + " by " + by, law.food(0, 0), due);
            }
        }
    }

    // For each, FOOD by FOOD, .. by how all was; then it is the next day.
    private static void byHowAllWas() {
        CookedLaw law = Check.land("food a 9 1 1 1 1; food b 8 1 1 1 1; food c 7 1 1 1 1; fills = day + kind * 2 - stock / 9;");
        int[] stock = {9, 8, 7};
        for (int day = 0; day < 30; day++) {
            for (int i = 0; i < 3; i++) {
                due("STOCK of " + i + " on day " + day, law.food(i, 0), stock[i]);
                stock[i] = Math.max(0, Math.min(99, stock[i] + Math.max(-9, Math.min(9, day + i * 2 - stock[i] / 9))));
                due("STOCK of " + i + " behind day " + day, law.stockIn(i, 1), stock[i]);
            }
            due("the next day", law.days(1), day + 1);
        }
    }
}
