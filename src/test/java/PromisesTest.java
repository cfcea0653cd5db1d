/** Promises 6 to 33, one method each or a few together; what is due is reckoned by hand from the document. */
public final class PromisesTest {
    private static final String LAND = "food salt 5 1 3 0 1; food meat 3 4 0 5 0; food leek 9 2 1 1 4;"
            + "dish soup 3 salt leek leek; dish roast 7 meat salt; guest ann 2; guest bob 9;"
            + "deed sing 0 4; deed hunt 1 5; deed tax 2 6;";

    public static void main(String[] args) {
        food();
        dish();
        laws();
        divided();
        guestAndDeed();
        cook();
        slips();
        lots();
        eat();
        servedStays();
        days();
        undo();
        pot();
        pinch();
        freestAndSupper();
        feud();
        menu();
        often();
        hunger();
        stockIn();
        boundIn();
        year();
        tellAndForget();
        blameAndSure();
        taste();
        holdAndRestore();
        count();
        Check.end("PromisesTest");
    }

    private static void due(String call, long got, long want) {
        Check.due(call, got, want);
    }

    private static void due(String call, boolean got, boolean want) {
        Check.due(call, got, want);
    }

    private static void food() {
        CookedLaw law = Check.land(LAND);
        int[][] all = {{5, 1, 3, 0, 1}, {3, 4, 0, 5, 0}, {9, 2, 1, 1, 4}};
        for (int f = 0; f < 3; f++) {
            for (int what = 0; what < 5; what++) {
                due("food(" + f + ", " + what + ")", law.food(f, what), all[f][what]);
            }
            due("food what -1", law.food(f, -1), -1);
            due("food what 5", law.food(f, 5), -1);
        }
        due("food(-1, 0)", law.food(-1, 0), -1);
        due("food(3, 0)", law.food(3, 0), -1);
        due("food(max, max)", law.food(Integer.MAX_VALUE, Integer.MAX_VALUE), -1);
        due("food(min, min)", law.food(Integer.MIN_VALUE, Integer.MIN_VALUE), -1);
    }

    private static void dish() {
        CookedLaw law = Check.land(LAND);
        int[][] all = {{3, 3, 5, 5, 2, 9, 0}, {7, 2, 5, 3, 5, 1, 0}};
        for (int d = 0; d < 2; d++) {
            for (int what = 0; what < 7; what++) {
                due("dish(" + d + ", " + what + ")", law.dish(d, what), all[d][what]);
            }
            due("dish what -1", law.dish(d, -1), -1);
            due("dish what 7", law.dish(d, 7), -1);
        }
        due("dish(2, 0)", law.dish(2, 0), -1);
        due("dish(-1, 0)", law.dish(-1, 0), -1);
        law.cook(1);
        law.cook(1);
        due("dish(1, 6)", law.dish(1, 6), 2);
        due("dish(0, 6)", law.dish(0, 6), 0);
        int[][] amounts = {{1, 0, 2}, {1, 1, 0}};
        for (int d = 0; d < 2; d++) {
            for (int f = 0; f < 3; f++) {
                due("amount(" + d + ", " + f + ")", law.amount(d, f), amounts[d][f]);
            }
        }
        due("amount(2, 0)", law.amount(2, 0), -1);
        due("amount(0, 3)", law.amount(0, 3), -1);
        due("amount(-1, 0)", law.amount(-1, 0), -1);
        due("amount(0, -1)", law.amount(0, -1), -1);
    }

    /** A FORCE of a DISH of HEAT 3 with 2 FOODS that bring 4 together, by a law. */
    private static int forceBy(String e, int kind) {
        CookedLaw law = Check.land("food a 9 1 1 2 3; food b 9 1 3 2 1; dish d 3 a b; force = " + e + ";");
        law.days(5);
        return law.dish(0, 3 + kind);
    }

    private static void laws() {
        due("sum", forceBy("sum", 0), 4);
        due("heat", forceBy("heat", 0), 3);
        due("kind", forceBy("kind", 2), 2);
        due("many", forceBy("many", 0), 2);
        due("day", forceBy("day", 0), 5);
        due("not told for it", forceBy("palate + ago + stock + price + 7", 0), 7);
        due("held to 99", forceBy("sum * 99", 0), 99);
        due("held to 0", forceBy("sum - 99", 0), 0);
        due("* ahead of +", forceBy("1 + 2 * 3 + 4", 0), 11);
        due("from the left", forceBy("20 - 5 - 4", 0), 11);
        due("from the left", forceBy("40 / 2 * 5 / 4", 0), 25);
        due("/ then *", forceBy("7 / 2 * 2", 0), 6);
        due("( )", forceBy("2 * (3 + 4)", 0), 14);
        due("( ) deep", forceBy("2*(1+3*(1+2*(1+2)))-40", 0), 4);
        due("- of ( )", forceBy("20 - (5 - 4)", 0), 19);
        due("rounded towards 0", forceBy("10 + (1 - 8) / 2", 0), 7);
        due("* wraps", forceBy("9999 * 9999 * 9999 * 9999 / (3000 * 9999)", 0), 36);
        due("- wraps", forceBy("(0 - 8192 * 8192 * 32 - 1) / (3000 * 9999)", 0), 71);
        due("the least by -1", forceBy("if (0 - 8192 * 8192 * 32) / (0 - 1) < 0 then 1 else 2", 0), 1);
        due("if holds", forceBy("if sum < 5 then 11 else 12", 0), 11);
        due("if alike", forceBy("if sum < 4 then 11 else 12", 0), 12);
        due("the first that holds", forceBy("if 2 < 1 then 1 else if 1 < 2 then 2 else if 1 < 2 then 3 else 4", 0), 2);
        due("the last one", forceBy("if 2 < 1 then 1 else if 3 < 2 then 2 else if 4 < 2 then 3 else if 5 < 2 then 4 else 5", 0), 5);
        due("the fourth if", forceBy("if 2 < 1 then 1 else if 3 < 2 then 2 else if 4 < 2 then 3 else if 1 < 2 then 4 else 5", 0), 4);
        due("sides of <", forceBy("if sum + 1 < 2 * 3 - 1 then 1 else 2", 0), 2);
        due("the last law", forceBy("5; force = 6", 0), 6);
    }

    private static void divided() {
        due("by 0", forceBy("7 + 1 / 0", 0), 0);
        due("by 0 times 0", forceBy("7 + 0 * (1 / 0)", 0), 0);
        due("0 by 0", forceBy("7 + 0 / kind", 0), 0);
        due("not by 0", forceBy("7 + 0 / kind", 1), 7);
        due("by 0 in a side", forceBy("if 1 / kind < 2 then 5 else 6", 0), 0);
        due("by 0 in the other side", forceBy("if 2 < 1 / 0 then 5 else 6", 0), 0);
        due("by 0, not looked at", forceBy("if 1 < 2 then 5 else 6 / 0", 0), 5);
        due("by 0, not looked at", forceBy("if 2 < 1 then 5 / 0 else 6", 0), 6);
        due("by 0 in a side not looked at", forceBy("if 1 < 2 then 5 else if 1 / 0 < 1 then 6 else 7", 0), 5);
        due("by 0 in a then", forceBy("if 1 < 2 then 5 / 0 else 6", 0), 0);
        // FILLS that is divided by 0 fills nothing, BINDS does not bind, SLIPS does not slip
        CookedLaw law = Check.land("food a 5 0 9 1 1; dish d 1 a; guest g 1; deed e 0 9; fills = 5 + 4 / price;"
                + "binds = sum / ago; slips = 100 + 1 / (heat - 1);");
        due("cook", law.cook(0), -2);
        due("bound", law.eat(0), 1);
        law.days(1);
        due("stock", law.food(0, 0), 4);
        due("bound a day behind", law.guest(0, 3), 9);
    }

    private static void guestAndDeed() {
        CookedLaw law = Check.land(LAND);
        int[] never = {9, -2, 0, 0, 0, 0, -1};
        for (int what = 0; what < never.length; what++) {
            due("guest(1, " + what + ")", law.guest(1, what), never[what]);
        }
        due("deed(0, 2)", law.deed(0, 2), 3);
        law.cook(0);
        law.eat(1);
        law.days(1);
        law.eat(0);
        int[] bob = {9, 1, 1, 4, 1, 8, -1};
        int[] ann = {2, 0, 1, 5, 2, 9, -1};
        for (int what = 0; what < bob.length; what++) {
            due("bob " + what, law.guest(1, what), bob[what]);
            due("ann " + what, law.guest(0, what), ann[what]);
        }
        due("guest what -1", law.guest(0, -1), -1);
        due("guest(2, 0)", law.guest(2, 0), -1);
        due("guest(-1, 0)", law.guest(-1, 0), -1);
        // sing: FORCE 0, LIMIT 4: barred for 5 and 4; hunt: 1, 5: free for 2 and 1; tax: 2, 6: barred for 9 and 8
        int[][] deeds = {{0, 4, 0}, {1, 5, 3}, {2, 6, 0}};
        for (int d = 0; d < 3; d++) {
            for (int what = 0; what < 3; what++) {
                due("deed(" + d + ", " + what + ")", law.deed(d, what), deeds[d][what]);
            }
            due("deed what 3", law.deed(d, 3), -1);
            due("deed what -1", law.deed(d, -1), -1);
        }
        due("deed(3, 0)", law.deed(3, 0), -1);
        due("deed(-1, 0)", law.deed(-1, 0), -1);
        law.days(1);
        due("sing is free for bob, bound by 3", law.deed(0, 2), 2);
        law.days(1);
        due("sing is free for both", law.deed(0, 2), 3);
        due("tax is barred for bob by 6", law.deed(2, 2), 0);
        law.days(1);
        due("tax is free for bob", law.deed(2, 2), 2);
        law.days(60);
        due("bound by 0 at least", law.guest(0, 3), 0);
        CookedLaw none = Check.land("guest a 1; deed d 0 0; deed e 0 1;");
        due("LIMIT 0 is barred always", none.deed(0, 2), 0);
        due("LIMIT 1 is free for 0", none.deed(1, 2), 1);
        CookedLaw binds = Check.land("food a 9 1 4 5 6; dish d 0 a; guest g 3; guest h 9; deed e 0 1;"
                + "binds = sum * kind + palate * ago + day;");
        due("bound by 0 without a meal", binds.guest(0, 4), 0);
        binds.days(2);
        binds.cook(0);
        binds.eat(0);
        due("FORCE 0", binds.guest(0, 3), 2);
        due("FORCE 1", binds.guest(0, 4), 7);
        due("FORCE 2", binds.guest(0, 5), 14);
        binds.days(3);
        due("FORCE 1 three days behind", binds.guest(0, 4), 5 + 9 + 5);
        due("h has not eaten", binds.guest(1, 4), 0);
        binds.days(60);
        due("held to 99", binds.guest(0, 4), 99);
    }

    private static void cook() {
        CookedLaw law = Check.land(LAND);
        due("cook(2)", law.cook(2), -1);
        due("cook(-1)", law.cook(-1), -1);
        due("nothing was done", law.count(11), 0);
        due("cook(0)", law.cook(0), -2);
        int[] due = {3, 2, 2, 3, 0, 5, 0, 5, 2, 9, 0, 1, 0, 0, 1, 0};
        for (int what = 0; what < due.length; what++) {
            due("count(" + what + ")", law.count(what), due[what]);
        }
        due("salt", law.food(0, 0), 4);
        due("meat", law.food(1, 0), 3);
        due("leek", law.food(2, 0), 7);
        due("cook(1)", law.cook(1), -2);
        due("served", law.count(6), 1);
        due("FORCE 1", law.count(8), 5);
        due("paid", law.count(5), 10);
        law.cook(0);
        law.cook(0);
        due("leek 3", law.food(2, 0), 3);
        due("the last salt", law.cook(0), -2);
        due("no salt", law.cook(0), -3);
        due("no salt", law.cook(1), -3);
        due("nothing was done", law.count(11), 5);
        due("leek 1", law.food(2, 0), 1);
        due("cooked", law.count(14), 5);
        due("paid", law.count(5), 25);
        // as many as are in it must be in store
        CookedLaw two = Check.land("food a 1 1 1 1 1; dish d 1 a a; dish e 1 a;");
        due("one of two", two.cook(0), -3);
        due("one", two.cook(1), -2);
    }

    private static void slips() {
        CookedLaw law = Check.land(LAND + "slips = 50;");
        due("LOT 19: meat", law.cook(0), 1);
        due("salt", law.food(0, 0), 4);
        due("meat", law.food(1, 0), 2);
        due("leek", law.food(2, 0), 7);
        due("nothing is paid for it", law.count(5), 5);
        due("FORCE 0", law.count(7), 5);
        due("FORCE 1", law.count(8), 7);
        due("FORCE 2", law.count(9), 9);
        due("as told", law.dish(0, 4), 2);
        due("LOT 38: leek", law.cook(0), 2);
        due("leek", law.food(2, 0), 4);
        due("FORCE 2", law.count(9), 13);
        due("LOT 52: none", law.cook(0), -2);
        due("leek", law.food(2, 0), 2);
        due("LOT 39: salt", law.cook(1), 0);
        due("salt", law.food(0, 0), 0);
        due("FORCE 0", law.count(7), 6);
        due("no salt", law.cook(1), -3);
        law.undo();
        due("the same again", law.cook(1), 0);

        due("19 is not less than 19", Check.land(LAND + "slips = 19;").cook(0), -2);
        due("19 is less than 20", Check.land(LAND + "slips = 20;").cook(0), 1);
        due("held to 0", Check.land(LAND + "slips = 0 - 200;").cook(0), -2);
        due("held to 100", Check.land(LAND + "slips = 9999; seed 1;").cook(0), 1);
        CookedLaw both = Check.land(LAND + "slips = heat * many + 6 + kind + sum + palate + ago + stock + price;");
        due("3 * 3 + 6", both.cook(0), -2);
        both.undo();
        due("7 * 2 + 6", both.cook(1), 1);
        CookedLaw later = Check.land(LAND + "slips = day * 10;");
        later.days(1);
        due("day 1", later.cook(0), -2);
        later.undo();
        later.days(1);
        due("day 2", later.cook(0), 1);
        // the FOODS of the DISH go first: of what is gone none slips in
        CookedLaw last = Check.land("food a 3 1 3 0 1; food b 1 4 0 5 0; food c 9 2 1 1 4; dish d 3 a b; slips = 100;");
        due("the last b is in it", last.cook(0), -2);
        due("a", last.food(0, 0), 2);
        CookedLaw seven = Check.land("food a 9 1 1 1 1; dish d 1 a a a a a a; slips = 100; force = sum + many * 10;");
        due("a 7th", seven.cook(0), 0);
        due("FORCE of 7", seven.count(7), 77);
        due("a", seven.food(0, 0), 2);
    }

    private static void lots() {
        // LOT 100 and LOT 3 by SEED, for the first, second, .. that is COOKED
        int[] seeds = {0, 1, 4711, 9999};
        int[][] lot = {{19, 38, 52, 39}, {85, 6, 72, 10}, {0, 26, 45, 95}, {85, 20, 14, 36}};
        int[][] which = {{1, 2, 0, 0}, {1, 2, 1, 1}, {0, 0, 2, 1}, {1, 0, 2, 2}};
        for (int i = 0; i < seeds.length; i++) {
            for (int c = 0; c < 4; c++) {
                for (int more = 0; more < 2; more++) {
                    CookedLaw law = Check.land("food a 99 1 1 1 1; food b 99 1 1 1 1; food c 99 1 1 1 1; dish d 1 a;"
                            + "dish e 1 b; seed " + seeds[i] + "; slips = " + (lot[i][c] + more) + ";");
                    for (int ahead = 0; ahead < c; ahead++) {
                        law.cook(ahead % 2);
                    }
                    due("SEED " + seeds[i] + " cook " + c, law.cook(0), more == 0 ? -2 : which[i][c]);
                }
            }
        }
    }

    private static void eat() {
        CookedLaw law = Check.land(LAND);
        due("nothing is served", law.eat(0), -2);
        due("no such one comes first", law.eat(2), -1);
        due("no such one", law.eat(-1), -1);
        law.cook(1);
        due("eat(0)", law.eat(0), 5);
        due("eat(1)", law.eat(1), 5);
        due("meals", law.guest(0, 2), 1);
        due("all meals", law.count(15), 2);
        due("eat(0) again", law.eat(0), 5);
        due("meals", law.guest(0, 2), 2);
        due("all meals", law.count(15), 3);
        law.cook(0);
        due("by what was eaten", law.guest(0, 5), 1);
        due("soup", law.eat(0), 2);
        due("by what was eaten last", law.guest(0, 5), 9);
        due("things done", law.count(11), 6);
        due("eat(2)", law.eat(2), -1);
        // four GUESTS, each by a DISH of its own
        StringBuilder four = new StringBuilder("food a 99 1 1 2 3; deed all 2 99;");
        for (int i = 0; i < 4; i++) {
            char c = (char) ('a' + i);
            four.append("guest g").append(c).append(" 1; dish d").append(c).append(" 1").append(" a".repeat(i + 1)).append(';');
        }
        CookedLaw guests = Check.land(four.toString());
        for (int i = 0; i < 4; i++) {
            guests.cook(i);
            due("eat(" + i + ")", guests.eat(i), 1);
        }
        for (int i = 0; i < 4; i++) {
            for (int kind = 0; kind < 3; kind++) {
                due("guest " + i + " by FORCE " + kind, guests.guest(i, 3 + kind), (i + 1) * (kind + 1));
            }
        }
        due("meals of all", guests.count(15), 4);
        due("all are free", guests.deed(0, 2), 15);
    }

    /** What is served has the FORCES that it got as it was COOKED, on whatever day it is eaten. */
    private static void servedStays() {
        CookedLaw law = Check.land("food a 9 1 1 2 3; dish d 1 a; guest g 1; force = sum + day * 10; binds = sum;");
        law.days(1);
        law.cook(0);
        due("cooked on day 1", law.count(7), 11);
        law.days(2);
        due("still", law.count(7), 11);
        law.eat(0);
        due("eaten so", law.guest(0, 3), 11);
        due("as told now", law.dish(0, 3), 31);
        law.days(1);
        due("bound so", law.guest(0, 4), 12);
    }

    private static void days() {
        CookedLaw law = Check.land("food a 5 3 1 1 1; food b 0 9 1 1 1; food c 95 2 1 1 1;"
                + "fills = if kind < 1 then price - stock else if kind < 2 then day * 5 else stock - 85;");
        due("days(0)", law.days(0), 0);
        due("no thing done", law.count(11), 0);
        due("days(-1)", law.days(-1), -1);
        due("days(61)", law.days(61), -1);
        due("days(min)", law.days(Integer.MIN_VALUE), -1);
        due("days(1)", law.days(1), 1);
        due("a: 5 + (3 - 5)", law.food(0, 0), 3);
        due("b: 0 + 0 * 5", law.food(1, 0), 0);
        due("c: 95 + 9, held to 99", law.food(2, 0), 99);
        due("days(1)", law.days(1), 2);
        due("b: 0 + 1 * 5", law.food(1, 0), 5);
        due("days(2)", law.days(2), 4);
        due("b: 5 + 9 + 9", law.food(1, 0), 23);
        due("things done", law.count(11), 3);
        due("days(60)", law.days(60), 64);
        due("b", law.food(1, 0), 99);
        CookedLaw less = Check.land("food a 25 3 1 1 1; fills = 0 - 99;");
        less.days(1);
        due("held to -9", less.food(0, 0), 16);
        less.days(2);
        due("held to 0", less.food(0, 0), 0);
        CookedLaw still = Check.land("food a 25 3 1 1 1;");
        still.days(60);
        due("not told: 0", still.food(0, 0), 25);
        CookedLaw other = Check.land("food a 25 3 1 1 1; fills = 1 + sum + heat + many + palate + ago;");
        other.days(3);
        due("not told for it", other.food(0, 0), 28);
    }

    private static void undo() {
        CookedLaw law = Check.land(LAND + "fills = 1; slips = 50;");
        due("undo() of nothing", law.undo(), false);
        law.cook(0);
        law.days(1);
        law.eat(1);
        due("meals", law.guest(1, 2), 1);
        due("undo eat", law.undo(), true);
        due("meals", law.guest(1, 2), 0);
        due("ago", law.guest(1, 1), -2);
        due("bound", law.guest(1, 3), 0);
        due("undo days", law.undo(), true);
        due("day", law.count(4), 0);
        due("meat", law.food(1, 0), 2);
        due("undo cook", law.undo(), true);
        due("meat", law.food(1, 0), 3);
        int[] due = {3, 2, 2, 3, 0, 0, -2, 0, 0, 0, 0, 0, 0, 0, 0, 0};
        for (int what = 0; what < due.length; what++) {
            due("undone count(" + what + ")", law.count(what), due[what]);
        }
        due("dish(0, 6)", law.dish(0, 6), 0);
        due("undo() of nothing", law.undo(), false);
        // what was eaten, and when, comes back too
        law.cook(0);
        law.eat(0);
        law.days(3);
        law.cook(1);
        law.eat(0);
        law.undo();
        due("by soup", law.guest(0, 5), 6);
        due("three days ago", law.guest(0, 1), 3);
        for (int i = 0; i < 4; i++) {
            law.undo();
        }
        due("nothing is left", law.count(11), 0);
        for (int i = 0; i < 45; i++) {
            law.days(1);
        }
        due("40 can be", law.count(11), 40);
        for (int i = 0; i < 40; i++) {
            due("undo " + i, law.undo(), true);
            due("day", law.count(4), 44 - i);
            due("left", law.count(11), 39 - i);
        }
        due("the first 5 can't be", law.undo(), false);
        due("day", law.count(4), 5);
        for (int i = 0; i < 100; i++) {
            law.days(2);
            if (i % 3 == 2) {
                law.undo();
            }
        }
        due("day", law.count(4), 5 + 2 * 67);
        due("undo", law.undo(), true);
        due("day", law.count(4), 5 + 2 * 66);
        due("what did not happen is no thing done: cook", law.cook(5), -1);
        due("days(0)", law.days(0), 5 + 2 * 66);
        due("eat", law.eat(0), -2);
        int can = law.count(11);
        law.tell(0, 0, 0);
        law.hold(0);
        due("nor are tell and hold", law.count(11), can);
        due("undo", law.undo(), true);
        due("TOLD stays", law.count(12), 1);
        due("SLOTS stay", law.count(13), 1);
    }

    private static void pots(CookedLaw law, int one, int two, int three, int... due) {
        for (int what = 0; what < 8; what++) {
            int want = due.length == 1 ? due[0] : what < due.length ? due[what] : 0;
            due("pot(" + one + ", " + two + ", " + three + ", " + what + ")", law.pot(one, two, three, what), want);
        }
    }

    private static void pot() {
        CookedLaw law = Check.land(LAND);
        pots(law, 0, 0, 0, 1, 0, 1, 0, 0);
        pots(law, 3, 5, 0, 5, 0, 1, 1, 0);
        pots(law, 0, 0, 8, 4, 0, 0, 0, 2);
        pots(law, 0, 15, 0, 12, 0, 0, 3, 0);
        pots(law, 0, 16, 0, 14, 0, 0, 3, 1);
        pots(law, 15, 0, 0, 5, 0, 5, 0, 0);
        pots(law, 16, 0, 0, 7, 0, 5, 0, 1);
        pots(law, 17, 0, 0, -2);
        pots(law, 0, 0, 24, 12, 0, 0, 0, 6);
        pots(law, 0, 0, 25, -2);
        pots(law, 99, 99, 99, -2);
        for (int what = 0; what < 8; what++) {
            due("pot -1", law.pot(-1, 0, 0, what), -1);
            due("pot -1", law.pot(0, -1, 0, what), -1);
            due("pot -1", law.pot(0, 0, -1, what), -1);
            due("pot 100", law.pot(100, 0, 0, what), -1);
            due("pot 100", law.pot(0, 100, 0, what), -1);
            due("pot 100", law.pot(0, 0, 100, what), -1);
        }
        due("pot what -1", law.pot(0, 0, 0, -1), -1);
        due("pot what 8", law.pot(0, 0, 0, 8), -1);
        due("nothing happens", law.food(0, 0), 5);
        pots(Check.land("food a 0 1 9 9 9;"), 0, 0, 0, -2);
        pots(new CookedLaw(), 0, 0, 0, -2);
        // alike PRICES: fewest FOODS, however much of FOOD 0 there is
        pots(Check.land("food a 9 2 1 1 1; food b 9 1 1 0 0; food c 9 3 2 1 1;"), 2, 1, 1, 3, 0, 0, 0, 1);
        pots(Check.land("food a 9 0 1 0 0; food b 9 0 3 0 0;"), 6, 0, 0, 0, 0, 0, 2);
        // the cheapest, though it is of more FOODS
        pots(Check.land("food a 9 9 5 0 0; food b 9 1 1 0 0;"), 5, 0, 0, 5, 0, 0, 5);
        // alike FOODS in all: least HEAT, then most of FOOD 0, of FOOD 1
        pots(Check.land("food a 9 1 1 0 0; food b 9 1 2 0 0; force = sum * heat;"), 6, 0, 0, 1, 3, 0, 1);
        pots(Check.land("food a 9 1 1 0 0; food b 9 1 2 0 0; force = sum * heat;"), 10, 0, 0, 1, 5, 0, 1);
        pots(Check.land("food a 9 1 1 0 0; food b 9 1 2 0 0; force = sum * heat;"), 19, 0, 0, 2, 5, 0, 2);
        pots(Check.land("food a 9 1 1 0 0; food b 9 1 2 0 0; food c 9 1 2 0 0; force = sum * (1 + heat / 9);"),
                7, 0, 0, 2, 9, 0, 2);
        pots(Check.land("food a 9 1 1 0 0; food b 9 1 1 0 0; food c 9 1 1 0 0;"), 3, 0, 0, 3, 0, 3);
        pots(Check.land("food a 1 1 1 0 0; food b 1 1 1 0 0; food c 9 1 1 0 0;"), 4, 0, 0, 4, 0, 1, 1, 2);
        pots(Check.land("food a 9 1 1 0 0; food b 9 1 2 0 0; food c 9 1 3 0 0;"), 4, 0, 0, 2, 0, 1, 0, 1);
        // many, kind and day are looked at too
        CookedLaw many = Check.land("food a 9 1 1 1 1; force = if many < 3 then 0 else kind * 10 + day;");
        pots(many, 0, 10, 20, 3, 0, 3);
        pots(many, 1, 0, 0, -2);
        many.days(2);
        pots(many, 1, 0, 0, 3, 0, 3);
        CookedLaw six = Check.land("food a 9 1 1 1 1;");
        pots(six, 6, 0, 0, 6, 0, 6);
        pots(six, 7, 0, 0, -2);
        StringBuilder all = new StringBuilder();
        for (char c = 'a'; c < 'g'; c++) {
            all.append("food f").append(c).append(" 1 1 1 1 1;");
        }
        pots(Check.land(all.toString()), 6, 6, 6, 6, 0, 1, 1, 1, 1, 1, 1);
        pots(Check.land(all.toString()), 4, 4, 4, 4, 0, 1, 1, 1, 1);
    }

    private static void pinch() {
        CookedLaw law = Check.land(LAND);
        due("pinch(0, 0)", law.pinch(0, 0), 2);
        due("pinch(0, 1)", law.pinch(0, 1), 6);
        due("pinch(0, 2)", law.pinch(0, 2), -1);
        due("pinch(0, -1)", law.pinch(0, -1), -1);
        due("pinch(2, 0)", law.pinch(2, 0), -1);
        due("pinch(-1, 0)", law.pinch(-1, 0), -1);
        CookedLaw alike = Check.land("food a 0 1 1 1 1; food b 0 1 0 3 0; food c 9 1 2 0 0; dish d 1 c;");
        due("the first of alike ones, not in store", alike.pinch(0, 0), 0);
        due("3", alike.pinch(0, 1), 3);
        CookedLaw none = Check.land("food a 1 1 1 1 1; food b 1 1 1 1 1; dish d 1 a b; force = 7;");
        due("no change: the first", none.pinch(0, 0), 0);
        due("no change", none.pinch(0, 1), 0);
        CookedLaw down = Check.land("food a 9 1 0 0 0; food b 9 1 9 0 9; dish d 2 a; force = 50 - sum * heat + day - many;");
        // a: 1 less each, 3 in all; b: 19, 1 and 19 less
        due("less counts too", down.pinch(0, 1), 39);
        due("b", down.pinch(0, 0), 1);
    }

    private static void freestAndSupper() {
        CookedLaw law = Check.land(LAND);
        due("freest(0, 0)", law.freest(0, 0), 1);
        due("freest(0, 1)", law.freest(0, 1), 2);
        due("freest(1, 1)", law.freest(1, 1), 2);
        due("freest(2, 0)", law.freest(2, 0), -1);
        due("freest(-1, 0)", law.freest(-1, 0), -1);
        due("freest(0, 2)", law.freest(0, 2), -1);
        due("freest(0, -1)", law.freest(0, -1), -1);
        due("supper()", law.supper(), 4);
        CookedLaw none = Check.land("guest g 1; deed e 0 1;");
        due("no DISHES", none.freest(0, 0), -2);
        due("no DISHES", none.freest(0, 1), -2);
        due("no such what", none.freest(0, 2), -1);
        due("supper() without DISHES", none.supper(), 0);
        due("supper() without GUESTS", Check.land("food a 1 1 1 1 1; dish d 1 a; deed e 0 9;").supper(), 0);
        CookedLaw alike = Check.land("food a 0 1 1 1 1; dish d 1 a; dish e 2 a; guest g 1; guest h 2;"
                + "deed x 0 9; deed y 0 1; binds = sum * palate * 2 - ago - 2;");
        due("of alike ones the first", alike.freest(0, 0), 0);
        due("both are free for palate 1", alike.freest(0, 1), 2);
        due("one for palate 2", alike.freest(1, 1), 1);
        due("together", alike.supper(), 3);
        due("nothing happens", alike.guest(0, 2), 0);
    }

    private static void feud() {
        CookedLaw law = Check.land(LAND);
        // soup 5 2 9: hunt only; roast 3 5 1: sing and tax
        due("feud(0, 0, 1)", law.feud(0, 0, 1), 3);
        due("feud(0, 1, 0)", law.feud(0, 1, 0), 3);
        due("feud(0, 0, 2)", law.feud(0, 0, 2), 0);
        due("feud(1, 1, 2)", law.feud(1, 1, 2), 3);
        due("one and the same", law.feud(0, 1, 1), -1);
        due("feud(2, 0, 1)", law.feud(2, 0, 1), -1);
        due("feud(-1, 0, 1)", law.feud(-1, 0, 1), -1);
        due("feud(0, 3, 1)", law.feud(0, 3, 1), -1);
        due("feud(0, -1, 1)", law.feud(0, -1, 1), -1);
        due("feud(0, 1, 3)", law.feud(0, 1, 3), -1);
        due("feud(0, 1, -1)", law.feud(0, 1, -1), -1);
        CookedLaw one = Check.land("food a 0 1 1 1 1; food b 0 1 5 5 5; food c 0 1 9 9 9; dish d 1 a; dish e 1 b; dish f 1 c;"
                + "guest g 1; deed x 0 3; deed y 0 7;");
        due("by the second only", one.feud(0, 0, 1), 2);
        due("no DISHES", Check.land("guest g 1; deed x 0 3; deed y 0 7;").feud(0, 0, 1), 0);
    }

    private static void menus(CookedLaw law, int guest, int n, int set, int... due) {
        for (int i = -1; i < n; i++) {
            int want = due.length > 1 ? due[i + 1] : i < 0 ? -2 : -3;
            due("menu(" + guest + ", " + n + ", " + set + ", " + i + ")", law.menu(guest, n, set, i), want);
        }
    }

    private static void menu() {
        CookedLaw law = Check.land(LAND);
        menus(law, 0, 1, 0, 0, -2);
        menus(law, 0, 4, 7, 0, -2, -2, -2, -2);
        law.cook(0);
        law.eat(0);
        // bound by 5 2 9: sing is free behind 2 days, tax behind 4
        menus(law, 0, 1, 1, 1, 1);
        menus(law, 0, 4, 1, 1, 1, -2, -2, -2);
        menus(law, 0, 4, 2, 0, -2, -2, -2, -2);
        menus(law, 0, 1, 3, -1);
        menus(law, 0, 3, 3, -1);
        law.days(1);
        menus(law, 0, 2, 1, 1, 1, -2);
        law.days(1);
        menus(law, 0, 2, 1, 0, -2, -2);
        menus(law, 0, 2, 5, 1, 1, -2);
        menus(law, 0, 4, 7, -1);
        menus(law, 1, 4, 7, 0, -2, -2, -2, -2);
        due("nothing happens", law.guest(0, 2), 1);
        // no such ones
        due("menu guest 2", law.menu(2, 1, 0, -1), -1);
        due("menu guest -1", law.menu(-1, 1, 0, -1), -1);
        due("menu n 0", law.menu(0, 0, 0, -1), -1);
        due("menu n 5", law.menu(0, 5, 0, -1), -1);
        due("menu set 8", law.menu(0, 1, 8, -1), -1);
        due("menu set -1", law.menu(0, 1, -1, -1), -1);
        due("menu i -2", law.menu(0, 1, 0, -2), -1);
        due("menu i n", law.menu(0, 2, 0, 2), -1);
        due("NONE is looked at first", law.menu(0, 2, 7, 2), -1);
        CookedLaw hungry = Check.land("food a 9 9 5 1 1; food b 9 9 1 5 1; dish x 1 a; dish y 1 b; guest g 1; deed f 0 4;"
                + "binds = sum + ago * 2;");
        hungry.cook(0);
        hungry.eat(0);
        // y binds by 1, then 3, then 5: it is good for two days, and none is eaten as long as can be
        menus(hungry, 0, 1, 1, 1, 1);
        menus(hungry, 0, 2, 1, 1, 1, -2);
        menus(hungry, 0, 3, 1, 2, 1, -2, 1);
        menus(hungry, 0, 4, 1, 2, 1, -2, 1, -2);
        hungry.cook(1);
        hungry.eat(0);
        menus(hungry, 0, 2, 1, 0, -2, -2);
        menus(hungry, 0, 3, 1, 1, -2, -2, 1);
        menus(hungry, 0, 4, 1, 1, -2, -2, 1, -2);
        hungry.days(1);
        menus(hungry, 0, 4, 1, 2, -2, 1, -2, 1);
        // stores are not looked at, and a meal's FORCES are by its day
        CookedLaw later = Check.land("food a 0 9 5 1 1; food b 1 1 9 9 9; dish x 1 a; dish y 1 b; guest g 1; deed f 0 6;"
                + "force = sum + day; binds = if day < 2 then sum else sum + ago * 9;");
        later.cook(1);
        later.eat(0);
        menus(later, 0, 1, 1, 1, 0);
        menus(later, 0, 2, 1, 1, 0, -2);
        menus(later, 0, 3, 1, -1);
        CookedLaw barred = Check.land("food a 1 1 1 1 1; dish x 1 a; guest g 1; deed f 0 0; deed h 0 9;");
        menus(barred, 0, 2, 1, -1);
        menus(barred, 0, 2, 2, 0, -2, -2);
        // bound by less with each meal alone: one on each day
        CookedLaw daily = Check.land("food a 1 1 1 1 1; food b 1 1 1 1 1; dish x 1 a; dish y 1 b; guest g 1; deed f 0 2;"
                + "binds = sum + ago * 9;");
        daily.cook(1);
        daily.eat(0);
        menus(daily, 0, 4, 1, 3, -2, 0, 0, 0);
        daily.days(1);
        menus(daily, 0, 4, 1, 4, 0, 0, 0, 0);
        menus(Check.land("guest g 1;"), 0, 4, 0, 0, -2, -2, -2, -2);
    }

    private static void often() {
        CookedLaw law = Check.land(LAND);
        due("often(0)", law.often(0), 4);
        due("often(1)", law.often(1), 3);
        due("often(2)", law.often(2), -1);
        due("often(-1)", law.often(-1), -1);
        law.cook(0);
        due("often(0)", law.often(0), 3);
        due("nothing happens", law.count(14), 1);
        due("99", Check.land("food a 99 1 1 1 1; dish d 1 a;").often(0), 99);
        due("0", Check.land("food a 0 1 1 1 1; dish d 1 a;").often(0), 0);
        // COOKED, so that there are slips: a meat with the first one
        due("by slips", Check.land(LAND + "slips = 50;").often(1), 2);
    }

    private static void hunger() {
        CookedLaw law = Check.land(LAND + "deed never 0 0;");
        due("without a meal", law.hunger(0, 0), 0);
        due("never", law.hunger(0, 3), -2);
        law.cook(0);
        law.eat(0);
        due("sing", law.hunger(0, 0), 2);
        due("hunt", law.hunger(0, 1), 0);
        due("tax", law.hunger(0, 2), 4);
        due("never", law.hunger(0, 3), -2);
        law.days(1);
        due("sing", law.hunger(0, 0), 1);
        due("hunger(2, 0)", law.hunger(2, 0), -1);
        due("hunger(-1, 0)", law.hunger(-1, 0), -1);
        due("hunger(0, 4)", law.hunger(0, 4), -1);
        due("hunger(0, -1)", law.hunger(0, -1), -1);
        for (int limit = 98; limit < 101; limit++) {
            CookedLaw late = Check.land("food a 1 1 1 1 1; dish d 1 a; guest g 1; deed e 0 1; binds = if ago < " + limit
                    + " then 1 else 0;");
            late.cook(0);
            late.eat(0);
            due("behind " + limit, late.hunger(0, 0), limit < 100 ? limit : -2);
        }
        CookedLaw byDay = Check.land("food a 1 1 1 1 1; dish d 1 a; guest g 1; deed e 0 1; binds = 7 - day;");
        byDay.days(2);
        byDay.cook(0);
        byDay.eat(0);
        due("by the day", byDay.hunger(0, 0), 5);
    }

    private static void stockIn() {
        CookedLaw law = Check.land("food a 5 1 1 1 1; food b 9 1 1 1 1; fills = if kind < 1 then day + 1 else 3 - stock;");
        due("stockIn(0, 0)", law.stockIn(0, 0), 5);
        due("stockIn(0, 1)", law.stockIn(0, 1), 6);
        due("stockIn(0, 3)", law.stockIn(0, 3), 11);
        due("stockIn(1, 1)", law.stockIn(1, 1), 3);
        due("stockIn(0, 60)", law.stockIn(0, 60), 99);
        due("nothing happens", law.count(4), 0);
        law.days(2);
        due("stockIn(0, 1)", law.stockIn(0, 1), 11);
        due("stockIn(0, 61)", law.stockIn(0, 61), -1);
        due("stockIn(0, -1)", law.stockIn(0, -1), -1);
        due("stockIn(2, 1)", law.stockIn(2, 1), -1);
        due("stockIn(-1, 1)", law.stockIn(-1, 1), -1);
    }

    private static void boundIn() {
        CookedLaw law = Check.land(LAND + "binds = sum + day - ago * palate;");
        due("without a meal", law.boundIn(0, 0, 60), 0);
        law.days(3);
        law.cook(0);
        law.eat(0);
        due("boundIn(0, 2, 0)", law.boundIn(0, 2, 0), 12);
        due("boundIn(0, 2, 4)", law.boundIn(0, 2, 4), 9 + 7 - 8);
        due("boundIn(0, 1, 60)", law.boundIn(0, 1, 60), 0);
        law.days(1);
        due("boundIn(0, 2, 3)", law.boundIn(0, 2, 3), 8);
        due("boundIn(0, 3, 3)", law.boundIn(0, 3, 3), -1);
        due("boundIn(0, -1, 3)", law.boundIn(0, -1, 3), -1);
        due("boundIn(2, 0, 3)", law.boundIn(2, 0, 3), -1);
        due("boundIn(-1, 0, 3)", law.boundIn(-1, 0, 3), -1);
        due("boundIn(0, 0, 61)", law.boundIn(0, 0, 61), -1);
        due("boundIn(0, 0, -1)", law.boundIn(0, 0, -1), -1);
    }

    private static void year() {
        CookedLaw law = Check.land(LAND + "slips = 50;");
        due("10 SEEDS, 2", law.year(0, 1, 2, 10), 10);
        due("10 SEEDS, 3", law.year(0, 1, 3, 10), 7);
        due("10 SEEDS, 7", law.year(0, 1, 7, 10), 4);
        due("10 SEEDS, 8", law.year(0, 1, 8, 10), 0);
        due("1 SEED, 7", law.year(0, 1, 7, 1), 1);
        law.cook(0);
        due("by how often DISHES were COOKED, 6", law.year(0, 0, 6, 10), 5);
        due("by how often DISHES were COOKED, 7", law.year(0, 0, 7, 10), 1);
        due("nothing happens", law.count(14), 1);
        due("20 SEEDS, 0", law.year(0, 0, 0, 20), 20);
        due("0 SEEDS", law.year(0, 0, 0, 0), -1);
        due("21 SEEDS", law.year(0, 0, 0, 21), -1);
        due("FORCE 3", law.year(0, 3, 0, 1), -1);
        due("FORCE -1", law.year(0, -1, 0, 1), -1);
        due("f 100", law.year(0, 0, 100, 1), -1);
        due("f 99", law.year(0, 0, 99, 1), 0);
        due("f -1", law.year(0, 0, -1, 1), -1);
        due("DISH 2", law.year(2, 0, 0, 1), -1);
        due("DISH -1", law.year(-1, 0, 0, 1), -1);
        CookedLaw none = Check.land("food a 1 1 1 1 1; dish d 1 a a;");
        due("not in store", none.year(0, 0, 0, 1), -2);
        due("NONE is looked at first", none.year(0, 0, 0, 21), -1);
        // from the text's SEED on, beyond 9999: 85, then 25 with a salt, then 72
        CookedLaw last = Check.land(LAND + "slips = 50; seed 9999;");
        due("SEED 9999", last.year(0, 0, 6, 1), 0);
        due("SEED 10000 too", last.year(0, 0, 6, 2), 1);
        due("SEED 10001 too", last.year(0, 0, 6, 3), 1);
        // what does not slip in, since the last one goes, changes nothing
        CookedLaw gone = Check.land("food salt 1 1 3 0 1; food meat 1 4 0 5 0; food leek 0 2 1 1 4; dish d 3 salt meat; slips = 100;");
        due("nothing is left to slip in", gone.year(0, 1, 6, 20), 0);
    }

    private static void tellAndForget() {
        CookedLaw law = Check.land(LAND);
        due("force 3", law.tell(3, 0, 0), -1);
        due("force -1", law.tell(-1, 0, 0), -1);
        due("heat 10", law.tell(0, 10, 0), -1);
        due("heat -1", law.tell(0, -1, 0), -1);
        due("is 100", law.tell(0, 0, 100), -1);
        due("is -1", law.tell(0, 0, -1), -1);
        due("none", law.count(12), 0);
        for (int i = 0; i < 20; i++) {
            due("tell " + i, law.tell(i % 3, i % 10, 5 * i), i);
        }
        due("a 21st", law.tell(0, 0, 0), -1);
        due("20", law.count(12), 20);
        due("forget()", law.forget(), 20);
        due("forget()", law.forget(), 0);
        due("none", law.count(12), 0);
        due("tell", law.tell(2, 9, 99), 0);
        due("no thing done", law.count(11), 0);
        law.days(1);
        law.undo();
        law.hold(0);
        law.tell(0, 0, 0);
        law.restore(0);
        due("stays", law.count(12), 2);
    }

    private static void blameAndSure() {
        CookedLaw law = Check.land(LAND);
        due("blame(0)", law.blame(0), 12);
        due("sure(0)", law.sure(0), -2);
        due("blame(1)", law.blame(1), -1);
        due("blame(-1)", law.blame(-1), -1);
        due("sure(1)", law.sure(1), -1);
        due("sure(-1)", law.sure(-1), -1);
        due("taste(1)", law.taste(1), -1);
        due("taste(-1)", law.taste(-1), -1);
        // soup 5 2 9, with salt 8 2 10, meat 5 7 9, leek 6 3 13; less salt 2 2 8, less leek 4 1 5
        // roast 3 5 1, with salt 6 5 2, meat 3 10 1, leek 4 6 5; less salt 0 5 0, less meat 3 0 1
        law.tell(0, 3, 4);
        due("4: a soup less leek, a roast with leek", law.blame(1), 2);
        due("this or that one", law.sure(1), -2);
        law.tell(1, 9, 1);
        due("4 1: a soup less leek", law.blame(2), 1);
        due("soup", law.sure(2), 0);
        due("known by 1 still", law.blame(1), 2);
        law.tell(2, 0, 6);
        due("none", law.blame(3), 0);
        due("none", law.sure(3), -2);
        due("taste of none", law.taste(3), -2);
        law.forget();
        law.tell(1, 0, 5);
        due("5: roast, with salt, less salt", law.blame(1), 3);
        due("roast in all", law.sure(1), 1);
        due("not all are roast by none", law.sure(0), -2);
        due("roast again", law.sure(1), 1);
        // of one FOOD nothing can go
        CookedLaw one = Check.land("food a 1 1 1 1 1; dish d 1 a;");
        due("as told, with one more", one.blame(0), 2);
        due("d", one.sure(0), 0);
        CookedLaw six = Check.land("food a 1 1 1 1 1; food b 1 1 2 2 2; dish d 1 a a a a a a; force = many;");
        due("as told, two more, one less", six.blame(0), 4);
        six.tell(0, 0, 7);
        due("with 7", six.blame(1), 2);
        // the HEATS told, not the DISH's own, and the day
        CookedLaw heat = Check.land("food a 1 1 1 1 1; food b 1 1 5 1 1; dish d 1 a; force = sum * heat + day;");
        heat.tell(0, 7, 49);
        due("7 * 7", heat.blame(1), 0);
        due("no", heat.sure(1), -2);
        heat.forget();
        heat.tell(0, 7, 42);
        due("6 * 7", heat.blame(1), 1);
        heat.days(1);
        due("on day 1", heat.blame(1), 0);
        // 5 DISHES of all 6 FOODS: each as told, 6 with one more, 6 with one less
        StringBuilder many = new StringBuilder();
        for (int i = 0; i < 6; i++) {
            many.append("food f").append((char) ('a' + i)).append(" 1 1 ").append(i + 3).append(" 1 0;");
        }
        for (int i = 0; i < 5; i++) {
            many.append("dish d").append((char) ('a' + i)).append(" 1 fa fb fc fd fe ff;");
        }
        CookedLaw most = Check.land(many.toString());
        due("13 each", most.blame(0), 65);
        due("FORCE 0 tells each way apart", most.taste(0), 0);
        most.tell(0, 0, 33 + 8);
        due("one more of the last FOOD", most.blame(1), 5);
        most.tell(1, 0, 7);
        due("so it is", most.blame(2), 5);
        most.forget();
        most.tell(0, 0, 33 - 8);
        due("one less of the last FOOD", most.blame(1), 5);
        most.forget();
        most.tell(0, 0, 33 - 3);
        due("one less of the first FOOD", most.blame(1), 5);
        CookedLaw none = new CookedLaw();
        due("no DISHES", none.blame(0), 0);
        due("no DISHES", none.sure(0), -2);
        due("no DISHES", none.taste(0), -2);
    }

    private static void taste() {
        CookedLaw law = Check.land(LAND);
        // FORCE 0: 5 8 5 6 2 4 3 6 3 4 0 3: at worst 3; FORCE 1: 2 2 7 3 2 1 5 5 10 6 5 0: at worst 3;
        // FORCE 2: 9 10 9 13 8 5 1 2 1 5 0 1: at worst 3
        due("taste(0): alike, the first", law.taste(0), 0);
        law.tell(0, 3, 4);
        due("4: 1 or 6 tells all", law.taste(1), 10);
        law.forget();
        law.tell(1, 3, 5);
        // roast 3 5 1, with salt 6 5 2, less salt 0 5 0
        due("FORCE 0 tells all", law.taste(1), 0);
        law.forget();
        law.tell(0, 3, 3);
        // roast 3 5 1, with meat 3 10 1, less meat 3 0 1
        due("FORCE 1 tells all", law.taste(1), 10);
        CookedLaw heat = Check.land("food a 1 1 1 1 1; food b 1 1 2 2 2; dish d 1 a; force = if heat < 4 then 1 else sum * kind;");
        due("from HEAT 4 on, FORCE 1", heat.taste(0), 14);
        CookedLaw third = Check.land("food a 1 1 1 1 1; food b 1 1 2 2 2; dish d 1 a; force = if kind < 2 then 1 else sum * (heat / 9);");
        due("FORCE 2 at HEAT 9", third.taste(0), 29);
        CookedLaw alike = Check.land("food a 1 1 1 1 1; dish d 1 a; force = 5;");
        due("nothing tells: the first", alike.taste(0), 0);
        CookedLaw high = Check.land("food a 1 1 1 1 1; dish d 1 a; force = if heat < 8 then 99 else 97 + sum;");
        due("98 or 99", high.taste(0), 8);
        high.tell(0, 8, 99);
        due("one is left: the first", high.taste(1), 0);
    }

    private static void holdAndRestore() {
        CookedLaw law = Check.land(LAND);
        due("restore of nothing", law.restore(0), false);
        due("hold(3)", law.hold(3), false);
        due("hold(-1)", law.hold(-1), false);
        due("restore(3)", law.restore(3), false);
        due("restore(-1)", law.restore(-1), false);
        due("restore(max)", law.restore(Integer.MAX_VALUE), false);
        due("none", law.count(13), 0);
        law.cook(0);
        law.eat(1);
        due("hold(2)", law.hold(2), true);
        due("one", law.count(13), 1);
        law.days(5);
        law.cook(1);
        law.eat(0);
        due("hold(0)", law.hold(0), true);
        due("two", law.count(13), 2);
        due("things done", law.count(11), 5);
        law.tell(0, 0, 0);
        Check.feed(law, "xx");
        due("restore(1)", law.restore(1), false);
        due("nothing happens", law.count(11), 5);
        due("restore(2)", law.restore(2), true);
        int[] due = {3, 2, 2, 3, 0, 5, 0, 5, 2, 9, 2, 0, 1, 2, 1, 1, -1};
        for (int what = 0; what < due.length; what++) {
            due("restored count(" + what + ")", law.count(what), due[what]);
        }
        due("bob", law.guest(1, 3), 5);
        due("ann", law.guest(0, 1), -2);
        due("meat", law.food(1, 0), 3);
        due("undo()", law.undo(), false);
        law.cook(1);
        due("undo()", law.undo(), true);
        law.cook(1);
        due("it stays there", law.restore(2), true);
        due("meat", law.food(1, 0), 3);
        due("restore(0)", law.restore(0), true);
        due("day", law.count(4), 5);
        due("meat", law.food(1, 0), 2);
        due("ann", law.guest(0, 2), 1);
        due("ann ate roast", law.guest(0, 4), 5);
        due("today", law.guest(0, 1), 0);
        due("bob ate soup", law.guest(1, 5), 4);
        due("five days ago", law.guest(1, 1), 5);
        law.days(1);
        due("hold(2) again", law.hold(2), true);
        due("two", law.count(13), 2);
        law.restore(0);
        law.restore(2);
        due("day", law.count(4), 6);
        CookedLaw fresh = new CookedLaw();
        due("hold of nothing told", fresh.hold(0), true);
        fresh.days(3);
        due("restore", fresh.restore(0), true);
        due("day", fresh.count(4), 0);
    }

    private static void count() {
        CookedLaw law = Check.land(LAND);
        law.cook(0);
        law.cook(1);
        law.eat(0);
        law.eat(0);
        law.eat(1);
        law.days(7);
        law.hold(1);
        law.tell(1, 1, 1);
        Check.feed(law, "abc");
        int[] due = {3, 2, 2, 3, 7, 10, 1, 3, 5, 1, 3, 6, 1, 1, 2, 3};
        for (int what = 0; what < due.length; what++) {
            due("count(" + what + ")", law.count(what), due[what]);
        }
        due("count(-1)", law.count(-1), -1);
        due("count(16)", law.count(16), -1);
        due("count(max)", law.count(Integer.MAX_VALUE), -1);
        due("count(min)", law.count(Integer.MIN_VALUE), -1);
    }
}
