/** Promises 1 to 5: the tape, the text, and its FAULTS. */
public final class TextTest {
    public static void main(String[] args) {
        newObject();
        feedAndBack();
        goodTexts();
        syntax();
        room();
        late();
        faultChangesNothing();
        newTextBeginsAnew();
        textBehindText();
        Check.end("TextTest");
    }

    private static void newObject() {
        CookedLaw law = new CookedLaw();
        int[] due = {0, 0, 0, 0, 0, 0, -2, 0, 0, 0, 0, 0, 0, 0, 0, 0, -1};
        for (int what = 0; what < due.length; what++) {
            Check.due("new count(" + what + ")", law.count(what), due[what]);
        }
        Check.due("new place()", law.place(), -1);
        Check.due("NONE", CookedLaw.NONE, -1);
        Check.due("new food", law.food(0, 0), -1);
        Check.due("new guest", law.guest(0, 0), -1);
    }

    private static void feedAndBack() {
        CookedLaw law = new CookedLaw();
        Check.due("back(1) of nothing", law.back(1), -1);
        Check.due("back(0) of nothing", law.back(0), 0);
        for (int i = 1; i <= 100; i++) {
            Check.due("feed " + i, law.feed(0x20202020, 0x20202020, 0x20202020, 0x20202020, 0x20202020), 20 * i);
        }
        Check.due("feed over 2000", law.feed(0, 0, 0, 0, 0), -1);
        Check.due("bytes", law.count(10), 2000);
        Check.due("back(1)", law.back(1), 1999);
        Check.due("feed over 2000 by 19", law.feed(0, 0, 0, 0, 0), -1);
        Check.due("bytes", law.count(10), 1999);
        Check.due("back(-1)", law.back(-1), -1);
        Check.due("back(2000)", law.back(2000), -1);
        Check.due("back(min)", law.back(Integer.MIN_VALUE), -1);
        Check.due("back(max)", law.back(Integer.MAX_VALUE), -1);
        Check.due("back(18)", law.back(18), 1981);
        Check.due("feed over 2000 by 1", law.feed(0, 0, 0, 0, 0), -1);
        Check.due("back(1)", law.back(1), 1980);
        Check.due("feed to 2000", law.feed(0x20202020, 0x20202020, 0x20202020, 0x20202020, 0x20202020), 2000);
        Check.due("read() of blanks", law.read(), 0);
        Check.due("bytes", law.count(10), 0);
        // the highest byte comes first, and what went does not come again
        law.feed(('f' << 24) + ('o' << 16) + ('o' << 8) + 'd', (' ' << 24) + ('a' << 16) + (' ' << 8) + '1',
                (' ' << 24) + ('2' << 16) + (' ' << 8) + '3', (' ' << 24) + ('4' << 16) + (' ' << 8) + '5',
                (';' << 24) + 0xffffff);
        Check.due("back(3)", law.back(3), 17);
        Check.due("read()", law.read(), 0);
        Check.due("food(0, 0)", law.food(0, 0), 1);
        Check.due("food(0, 4)", law.food(0, 4), 5);
        // a byte above 127 is one byte, and no TOKEN
        law.feed(0xffffffff, 0, 0, 0, 0);
        Check.due("read() of 255", law.read(), 1);
        Check.due("place() of 255", law.place(), 0);
        Check.due("read() of an empty tape", law.read(), 0);
        Check.due("place() of it", law.place(), -1);
    }

    private static void goodTexts() {
        Check.land("");
        Check.land(" \t\r\n");
        Check.land("food a 1 2 3 4 5;food b 99 9 9 9 9;");
        Check.land("food abcdefgh1 2 3 4 0005;dish d9abcdefgh;");
        Check.land("seed 0;seed 9999;force=1;force=sum;force=9999;");
        Check.land("force=if sum<1then 2else if heat<many then kind else if day<1 then 1 else if 1<2 then 3 else(4);");
        Check.land("binds=((((((palate-ago))))))*((((((stock/price))))));");
        Check.land("deed a 2 99;guest b 9;guest c 0;deed d 0 0;");
        Check.land("food fooda 1 1 1 1 1; food ifx 1 1 1 1 1; food x 1 1 1 1 1;");
        Check.land("food a 1 1 1 1 1; dish d 1 a a a a a a;");
        Check.land("food z 1 1 1 1 1; food az 1 1 1 1 1; food za 1 1 1 1 1; guest zzzzzzzz 1; guest aaaaaaaa 1; guest a 1;");
        // 400 TOKENS: 132 times 3, and 4
        Check.land("seed 1;".repeat(132) + "force=1;");
        StringBuilder six = new StringBuilder();
        for (char c = 'a'; c < 'g'; c++) {
            six.append("food f").append(c).append(" 1 1 1 1 1;deed e").append(c).append(" 0 0;");
        }
        for (char c = 'a'; c < 'f'; c++) {
            six.append("dish d").append(c).append(" 1 fa;");
        }
        for (char c = 'a'; c < 'e'; c++) {
            six.append("guest g").append(c).append(" 1;");
        }
        CookedLaw law = Check.land(six.toString());
        Check.due("foods", law.count(0), 6);
        Check.due("dishes", law.count(1), 5);
        Check.due("guests", law.count(2), 4);
        Check.due("deeds", law.count(3), 6);
        // all 21 NAMES are told then: each of them can be told no more
        for (String name : new String[] {"fa", "ff", "da", "de", "ga", "gc", "ea", "ef"}) {
            String text = six.substring(0, six.length() - 5) + name + " 1;";
            Check.fault(text, 3, text.length() - 5);
        }
        // a DISH of each FOOD
        StringBuilder each = new StringBuilder();
        for (int i = 0; i < 6; i++) {
            each.append("food f").append((char) ('a' + i)).append(" 1 ").append(i).append(" 1 1 1;");
        }
        for (int i = 0; i < 5; i++) {
            each.append("dish d").append((char) ('a' + i)).append(" 1 f").append((char) ('a' + i)).append(" ff;");
        }
        CookedLaw dishes = Check.land(each.toString());
        for (int dish = 0; dish < 5; dish++) {
            Check.due("price of " + dish, dishes.dish(dish, 2), dish + 5);
            for (int food = 0; food < 6; food++) {
                Check.due("amount(" + dish + ", " + food + ")", dishes.amount(dish, food), food == dish || food == 5 ? 1 : 0);
            }
        }
    }

    private static void syntax() {
        Check.fault("food", 1, 4);
        Check.fault("food  ", 1, 6);
        Check.fault("food a 1 2 3 4 5", 1, 16);
        Check.fault("food a 1 2 3 4;", 1, 14);
        Check.fault("food a 1 2 3 4 5 6;", 1, 17);
        Check.fault("food food 1 2 3 4 5;", 1, 5);
        Check.fault("food price 1 2 3 4 5;", 1, 5);
        Check.fault("food then 1 2 3 4 5;", 1, 5);
        Check.fault("food abcdefghi 1 2 3 4 5;", 1, 5);
        Check.fault("food A 1 2 3 4 5;", 1, 5);
        Check.fault("food a 12345 2 3 4 5;", 1, 7);
        Check.fault("food a 00001 2 3 4 5;", 1, 7);
        Check.fault("food a -1 2 3 4 5;", 1, 7);
        Check.fault(";", 1, 0);
        Check.fault("a", 1, 0);
        Check.fault("seed;", 1, 4);
        Check.fault("seed 1.", 1, 6);
        Check.fault("seed 1\u000b;", 1, 6);
        Check.fault("seed a;", 1, 5);
        Check.fault("food a 1 1 1 1 1;dish d 1;", 1, 25);
        Check.fault("food a 1 1 1 1 1;dish d 1 a 1;", 1, 28);
        Check.fault("food a 1 1 1 1 1;dish d 1 sum;", 1, 26);
        Check.fault("guest a 1 1;", 1, 10);
        Check.fault("deed a 1;", 1, 8);
        Check.fault("deed a 1 1 1;", 1, 11);
        Check.fault("force 1;", 1, 6);
        Check.fault("force =;", 1, 7);
        Check.fault("force = 1 2;", 1, 10);
        Check.fault("force = 1 sum;", 1, 10);
        Check.fault("force = -1;", 1, 8);
        Check.fault("force = 1 +;", 1, 11);
        Check.fault("force = 1 + * 2;", 1, 12);
        Check.fault("force = (1;", 1, 10);
        Check.fault("force = (1 < 2);", 1, 11);
        Check.fault("force = 1);", 1, 9);
        Check.fault("force = ();", 1, 9);
        Check.fault("force = a;", 1, 8);
        Check.fault("force = if 1 then 2 else 3;", 1, 13);
        Check.fault("force = if 1 < 2 else 3;", 1, 17);
        Check.fault("force = if 1 < 2 then 3;", 1, 23);
        Check.fault("force = if 1 < 2 then if 1 < 2 then 1 else 2 else 3;", 1, 22);
        Check.fault("force = if 1 < 2 < 3 then 1 else 2;", 1, 17);
        Check.fault("force = if 1 = 2 then 1 else 2;", 1, 13);
        Check.fault("force = 1 < 2;", 1, 10);
        Check.fault("force = 1 if;", 1, 10);
        Check.fault("force = 1 food a 1 1 1 1 1;", 1, 10);
        Check.fault("fills = stock", 1, 13);
        Check.fault("kind = 1;", 1, 0);
    }

    private static void room() {
        String foods = "";
        for (char c = 'a'; c < 'g'; c++) {
            foods += "food f" + c + " 1 1 1 1 1;";
        }
        Check.fault(foods + "food", 2, foods.length());
        Check.fault(foods + "food fa 1 1 1 1 100;", 2, foods.length());
        String dishes = foods;
        for (char c = 'a'; c < 'f'; c++) {
            dishes += "dish d" + c + " 1 fa;";
        }
        Check.fault(dishes + "dish g 1 fa;", 2, dishes.length());
        Check.fault("guest a 1;guest b 1;guest c 1;guest d 1; guest e 1;", 2, 41);
        Check.fault("deed a 1 1;deed b 1 1;deed c 1 1;deed d 1 1;deed e 1 1;deed f 1 1;deed", 2, 66);
        Check.fault("food a 1 1 1 1 1;dish d 1 a a a a a a a;", 2, 38);
        Check.fault("food a 1 1 1 1 1;dish d 1 b b b b b b b;", 2, 38);
        Check.fault("food a 1 1 1 1 1;dish d 1 a a a a a a 7;", 1, 38);
        String branch = "if 1<2 then 3 else ";
        Check.land("slips=" + branch.repeat(4) + "5;");
        Check.fault("slips=" + branch.repeat(5) + "5;", 2, 6 + 4 * branch.length());
        Check.fault("slips=((((((1))))));", 0, -1);
        Check.fault("slips=(((((((1)))))));", 2, 12);
        Check.fault("slips=1+((2*((((3))))))+(((((( 4 ))))))/((((((7/(", 2, 48);
        Check.fault("slips=if((((((1))))))<((((((1))))))then((((((1))))))else(((((((1)))))));", 2, 62);
        // the 401st TOKEN, at it; if no text goes on with it, that comes first
        String full = "seed 1;".repeat(132) + "force=1;";
        Check.fault(full + " seed 1;", 2, full.length() + 1);
        Check.fault(full + "7", 1, full.length());
        Check.fault(full + "&", 1, full.length());
        Check.fault("seed 1;".repeat(133) + "seed", 1, 133 * 7 + 4);
        Check.fault("seed 1;".repeat(133) + "seed 1", 2, 133 * 7 + 5);
        Check.fault("seed 1;".repeat(133) + "seed&", 1, 133 * 7 + 4);
        Check.fault("seed 1;".repeat(285) + "seed", 2, 133 * 7 + 5);
        // ROOM comes ahead of a SYNTAX behind it
        Check.fault("slips=(((((((&", 2, 12);
    }

    private static void late() {
        Check.fault("food a 1 1 1 1 1;food a 1 1 1 1 1;", 3, 22);
        Check.fault("food a 1 1 1 1 1;dish a 1 a;", 3, 22);
        Check.fault("guest a 1;deed b 1 1;deed a 1 1;", 3, 26);
        Check.fault("food a 1 1 1 1 1;dish b 1 a;guest b 1;", 3, 34);
        Check.fault("food a 1 1 1 1 1;dish d 1 a b;", 4, 28);
        Check.fault("food a 1 1 1 1 1;dish d 1 d;", 4, 26);
        Check.fault("dish d 1 a;food a 1 1 1 1 1;", 4, 9);
        Check.fault("guest a 1;food b 1 1 1 1 1;dish d 1 a;", 4, 36);
        Check.fault("guest a 1;food a 1 1 1 1 1;dish d 1 a;", 3, 15);
        Check.fault("food a 100 1 1 1 1;", 5, 7);
        Check.fault("food a 99 10 1 1 1;", 5, 10);
        Check.fault("food a 99 9 10 1 1;", 5, 12);
        Check.fault("food a 99 9 9 10 1;", 5, 14);
        Check.fault("food a 99 9 9 9 10;", 5, 16);
        Check.fault("food a 1 1 1 1 1;dish d 10 a;", 5, 24);
        Check.fault("guest a 10;", 5, 8);
        Check.fault("deed a 3 1;", 5, 7);
        Check.fault("deed a 2 100;", 5, 9);
        // the first by its place
        Check.fault("food a 100 1 1 1 1;food a 1 1 1 1 1;", 5, 7);
        Check.fault("food a 1 1 1 1 1;food a 100 1 1 1 1;", 3, 22);
        Check.fault("food a 1 1 1 1 1;dish d 10 b;", 5, 24);
        // SYNTAX and ROOM come ahead of all these
        Check.fault("food a 100 1 1 1 1;food a 1 1 1 1 1", 1, 35);
        Check.fault("guest a 1;guest a 1;guest a 1;guest a 1;guest a 1;", 2, 40);
    }

    private static void faultChangesNothing() {
        CookedLaw law = Check.land("food a 9 1 1 1 1;dish d 1 a;guest g 1;deed e 0 1;force=sum*2;seed 5;");
        law.cook(0);
        law.eat(0);
        law.hold(1);
        law.days(2);
        law.tell(0, 1, 2);
        Check.feed(law, "force = 7; food b 1 1 1 1 1; food b 1 1 1 1 1;");
        Check.due("read()", law.read(), 3);
        int[] due = {1, 1, 1, 1, 2, 1, 0, 2, 2, 2, 0, 3, 1, 1, 1, 1};
        for (int what = 0; what < due.length; what++) {
            Check.due("behind a FAULT count(" + what + ")", law.count(what), due[what]);
        }
        Check.due("dish(0, 3)", law.dish(0, 3), 2);
        Check.due("food(0, 0)", law.food(0, 0), 8);
        Check.due("undo()", law.undo(), true);
        Check.due("restore(1)", law.restore(1), true);
        Check.due("place()", law.place(), 34);
    }

    private static void newTextBeginsAnew() {
        CookedLaw law = Check.land("food a 9 1 1 1 1;dish d 1 a;guest g 1;deed e 0 1;force=sum*2;binds=9;fills=1;slips=100;seed 5;");
        law.cook(0);
        law.eat(0);
        law.hold(1);
        law.days(2);
        law.tell(0, 1, 2);
        Check.feed(law, "food b 3 1 1 1 1;dish d 1 b;guest g 1;deed e 0 1;");
        Check.due("read()", law.read(), 0);
        int[] due = {1, 1, 1, 1, 0, 0, -2, 0, 0, 0, 0, 0, 0, 0, 0, 0};
        for (int what = 0; what < due.length; what++) {
            Check.due("anew count(" + what + ")", law.count(what), due[what]);
        }
        Check.due("undo()", law.undo(), false);
        Check.due("restore(1)", law.restore(1), false);
        Check.due("guest(0, 1)", law.guest(0, 1), -2);
        Check.due("guest(0, 2)", law.guest(0, 2), 0);
        Check.due("dish(0, 3): FORCE is sum again", law.dish(0, 3), 1);
        Check.due("stockIn(0, 9): FILLS is 0 again", law.stockIn(0, 9), 3);
        Check.due("cook(0): SLIPS is 0 again", law.cook(0), -2);
        Check.due("eat(0)", law.eat(0), 0);
        Check.due("boundIn(0, 0, 1): BINDS is that FORCE less ago again", law.boundIn(0, 0, 1), 0);
        Check.feed(law, "");
        Check.due("read() of nothing", law.read(), 0);
        Check.due("foods", law.count(0), 0);
        Check.due("served", law.count(6), -2);
    }

    private static void read(CookedLaw law, String text, int number, int place) {
        Check.feed(law, text);
        Check.due("read() of " + text, law.read(), number);
        Check.due("place() of " + text, law.place(), place);
    }

    /** Nothing of an earlier text, nor of one with a FAULT, is left in a later one. */
    private static void textBehindText() {
        String full = "food a 9 1 2 3 4; food b 9 1 2 3 4; dish c 1 a b b; dish d 1 b; guest e 1; deed f 0 1;"
                + "force = 7; binds = 8; fills = 9; slips = 100; seed 77;";
        CookedLaw law = new CookedLaw();
        for (int i = 0; i < 3; i++) {
            read(law, full, 0, -1);
            law.cook(0);
            law.cook(1);
            law.eat(0);
            read(law, full + "guest g 10;", 5, full.length() + 8);
            read(law, full + "guest g 1", 1, full.length() + 9);
            read(law, "food x 5 1 2 3 4; dish y 3 x; guest z 1; deed v 0 1;", 0, -1);
            for (int what = 0; what < 4; what++) {
                Check.due("count(" + what + ")", law.count(what), 1);
            }
            Check.due("amount", law.amount(0, 0), 1);
            Check.due("many", law.dish(0, 1), 1);
            Check.due("cooked", law.dish(0, 6), 0);
            Check.due("FORCE", law.dish(0, 3), 2);
            Check.due("year", law.year(0, 0, 3, 20), 0);
            Check.due("cook", law.cook(0), -2);
            Check.due("eat", law.eat(0), 0);
            Check.due("bound", law.guest(0, 4), 3);
            Check.due("stock", law.stockIn(0, 5), 4);
            read(law, "", 0, -1);
            for (int what = 0; what < 4; what++) {
                Check.due("count(" + what + ")", law.count(what), 0);
            }
        }
        // the SEED is 0 again
        read(law, "seed 4711;", 0, -1);
        read(law, "seed 4711;", 0, -1);
        read(law, "food salt 5 1 3 0 1; food meat 3 4 0 5 0; food leek 9 2 1 1 4; dish d 1 salt; slips = 20;", 0, -1);
        Check.due("LOT 19 of SEED 0: meat", law.cook(0), 1);
    }
}
