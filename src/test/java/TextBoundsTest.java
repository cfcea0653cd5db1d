/** Part I and promises 1 to 5 at their bounds; above each method stands the sentence that it holds the class to. */
public final class TextBoundsTest {
    private static final String[] WORDS = {"food", "dish", "guest", "deed", "force", "binds", "fills", "slips", "seed", "if",
        "then", "else", "sum", "heat", "kind", "many", "day", "palate", "ago", "stock", "price"};
    private static final String[] LAWS = {"force", "binds", "fills", "slips"};
    private static final String FOOD = "food a 1 1 1 1 1;";
    private static final String BLANKS = "                    ";

    public static void main(String[] args) {
        Check.due("NONE", CookedLaw.NONE, -1);
        newObject();
        lastCall();
        tapeFull();
        tapeEmpty();
        bytesInTheirOrder();
        tapeIsEmptyThen();
        placeOfTheLatest();
        longestText();
        blanks();
        allBytes();
        names();
        words();
        ints();
        foods();
        dishes();
        foodsOfADish();
        guests();
        deeds();
        numbers();
        lastLaw();
        lastSeed();
        Check.end("TextBoundsTest");
    }

    private static void fault(String text, int number, int place) {
        Check.fault(text, number, place);
    }

    private static void good(String text) {
        fault(text, 0, -1);
    }

    private static void read(CookedLaw law, String text, int number, int place) {
        Check.feed(law, text);
        Check.due("read() of " + text, law.read(), number);
        Check.due("place() of " + text, law.place(), place);
    }

    /** The i-th of many NAMES, none of them a word in quotes. */
    private static String name(int i) {
        return "x" + (char) ('a' + i);
    }

    private static String times(int n, String before, String behind) {
        StringBuilder all = new StringBuilder();
        for (int i = 0; i < n; i++) {
            all.append(before).append(name(i)).append(behind);
        }
        return all.toString();
    }

    // No FOODS, no GUESTS.
    private static void newObject() {
        CookedLaw law = new CookedLaw();
        for (int what = 0; what < 4; what++) {
            Check.due("new count(" + what + ")", law.count(what), 0);
        }
        Check.due("new food", law.food(0, 0), -1);
        Check.due("new dish", law.dish(0, 0), -1);
        Check.due("new amount", law.amount(0, 0), -1);
        Check.due("new guest", law.guest(0, 0), -1);
        Check.due("new deed", law.deed(0, 0), -1);
        Check.due("new bytes", law.count(10), 0);
        Check.due("new undo()", law.undo(), false);
    }

    // An object is used for at most 512 calls after it has been made.
    private static void lastCall() {
        CookedLaw law = new CookedLaw();
        for (int i = 1; i < 512; i++) {
            law.days(60);
        }
        Check.due("the 512th call", law.days(60), 512 * 60);
        CookedLaw undone = new CookedLaw();
        for (int i = 1; i < 511; i++) {
            undone.days(1);
        }
        Check.due("the 511th call", undone.undo(), true);
        Check.due("the 512th call", undone.count(4), 509);
    }

    // feed: how many it has. NONE, and nothing comes, if it would have more than 2,000.
    private static void tapeFull() {
        CookedLaw law = new CookedLaw();
        for (int i = 1; i <= 100; i++) {
            Check.due("feed " + i, law.feed(0, 0, 0, 0, 0), 20 * i);
        }
        Check.due("a 101st feed", law.feed(1, 2, 3, 4, 5), -1);
        for (int bytes = 1999; bytes > 1980; bytes--) {
            Check.due("back(1)", law.back(1), bytes);
            Check.due("feed at " + bytes, law.feed(1, 2, 3, 4, 5), -1);
            Check.due("bytes", law.count(10), bytes);
        }
        Check.due("back(1)", law.back(1), 1980);
        Check.due("feed at 1980", law.feed(1, 2, 3, 4, 5), 2000);

        for (int bytes = 1980; bytes <= 2000; bytes++) {
            String text = " ".repeat(bytes - 7) + "seed 1;";
            CookedLaw fed = new CookedLaw();
            Check.feed(fed, text.substring(0, bytes - 20));
            fed.feed(Check.word(text, bytes - 20), Check.word(text, bytes - 16), Check.word(text, bytes - 12),
                    Check.word(text, bytes - 8), Check.word(text, bytes - 4));
            int want = bytes > 1980 ? -1 : 2000;
            Check.due("feed of & at " + bytes, fed.feed(0x26262626, 0x26262626, 0x26262626, 0x26262626, 0x26262626), want);
            Check.due("bytes", fed.count(10), bytes > 1980 ? bytes : 2000);
            Check.due("read(): & comes only if there is room", fed.read(), bytes > 1980 ? 0 : 1);
            Check.due("place()", fed.place(), bytes > 1980 ? -1 : 1980);
        }
    }

    // back: how many it has. NONE, and nothing goes, if it has not so many, or n is below 0.
    private static void tapeEmpty() {
        CookedLaw law = new CookedLaw();
        Check.due("back(0) of 0", law.back(0), 0);
        Check.due("back(1) of 0", law.back(1), -1);
        Check.due("back(-1) of 0", law.back(-1), -1);
        Check.feed(law, "seed 1;");
        int[] refused = {8, 9, 20, 2000, 2001, -1, -7, -2000, Integer.MAX_VALUE, Integer.MIN_VALUE};
        for (int n : refused) {
            Check.due("back(" + n + ") of 7", law.back(n), -1);
            Check.due("bytes behind back(" + n + ")", law.count(10), 7);
        }
        Check.due("back(0) of 7", law.back(0), 7);
        Check.due("read() of what stayed", law.read(), 0);
        Check.feed(law, "seed 1;");
        Check.due("back(7) of 7", law.back(7), 0);
        Check.due("back(1) of 0", law.back(1), -1);
        Check.due("read() of nothing", law.read(), 0);
        Check.feed(law, "seed 1;&");
        Check.due("back(1) of 8", law.back(1), 7);
        Check.due("read() without the last byte", law.read(), 0);
    }

    // feed: Twenty bytes, the highest of a first, come behind the tape.
    private static void bytesInTheirOrder() {
        for (int i = 0; i < 20; i++) {
            StringBuilder text = new StringBuilder(BLANKS);
            text.setCharAt(i, '&');
            fault(text.toString(), 1, i);
            fault(BLANKS + text, 1, 20 + i);
        }
        CookedLaw law = new CookedLaw();
        law.feed(0x20202020, 0x20202020, 0x20202020, 0x20202020, 0x202020a0);
        Check.due("a byte of 160 is no blank", law.read(), 1);
        Check.due("the last byte", law.place(), 19);
        law.feed(0xa0202020, 0x20202020, 0x20202020, 0x20202020, 0x20202020);
        Check.due("the highest of a", law.read(), 1);
        Check.due("the first byte", law.place(), 0);
    }

    // read: The tape, which is empty then, is read: 0, or the number of its FAULT.
    private static void tapeIsEmptyThen() {
        String[] texts = {"", " ", "seed 1;", "&", "seed 1", FOOD + FOOD, "guest a 10;"};
        int[] numbers = {0, 0, 0, 1, 1, 3, 5};
        CookedLaw law = new CookedLaw();
        for (int i = 0; i < texts.length; i++) {
            Check.feed(law, texts[i]);
            Check.due("read() of " + texts[i], law.read(), numbers[i]);
            Check.due("bytes", law.count(10), 0);
            Check.due("back(1)", law.back(1), -1);
            Check.due("read() of what is empty then", law.read(), 0);
            Check.due("feed", law.feed(0x20202020, 0x20202020, 0x20202020, 0x20202020, 0x20202020), 20);
        }
    }

    // place: The byte of the latest read()'s FAULT; NONE without.
    private static void placeOfTheLatest() {
        CookedLaw law = new CookedLaw();
        Check.due("place() ahead of a read()", law.place(), -1);
        read(law, "&", 1, 0);
        read(law, "  &", 1, 2);
        Check.due("place() stays", law.place(), 2);
        Check.feed(law, "seed 1;");
        Check.due("place() stays until it is read", law.place(), 2);
        Check.due("read()", law.read(), 0);
        Check.due("place() without a FAULT", law.place(), -1);
        read(law, "seed", 1, 4);
        read(law, "", 0, -1);
    }

    // A TEXT has 2,000 bytes at most. The text's end: its length.
    private static void longestText() {
        good(" ".repeat(1993) + "seed 1;");
        good("seed 1;" + " ".repeat(1993));
        fault(" ".repeat(1994) + "seed 1", 1, 2000);
        fault("seed 1" + " ".repeat(1994), 1, 2000);
        fault(" ".repeat(1999) + "&", 1, 1999);
        fault(" ".repeat(1999) + ";", 1, 1999);
        fault(" ".repeat(1996) + "seed", 1, 2000);
        fault(" ".repeat(1992) + "seed 1;&", 1, 1999);
        fault(" ".repeat(1989) + "guest a 10;", 5, 1997);
        fault("seed", 1, 4);
        fault("s", 1, 0);
        CookedLaw law = Check.land(" ".repeat(1970) + "guest abcdefgh 7;deed ij 2 99;");
        Check.due("PALATE at the end of 2000 bytes", law.guest(0, 0), 7);
        Check.due("LIMIT at the end of 2000 bytes", law.deed(0, 1), 99);
    }

    // With blanks (9, 10, 13, 32) between or not.
    private static void blanks() {
        for (char blank : new char[] {9, 10, 13, 32}) {
            String b = String.valueOf(blank);
            good(b);
            good(b + b + "seed" + b + b + "1" + b + ";" + b);
            good("food" + b + "a1" + b + "1" + b + "1" + b + "1" + b + "1;" + b + "dish" + b + "d1a" + b + "a;");
            fault("se" + b + "ed 1;", 1, 0);
            fault("seed" + b + b, 1, 6);
            fault("seed 1" + b + "2;", 1, 7);
            // not between: one NAME, one INT
            fault("guest" + b + "a b1;", 1, 8);
        }
        for (int other : new int[] {0, 1, 8, 11, 12, 14, 31, 33, 127, 128, 137, 138, 141, 160, 255}) {
            fault("seed" + (char) other + "1;", 1, 4);
            fault("" + (char) other, 1, 0);
        }
        good(FOOD + "dish d1a;");
        fault(FOOD + "dishd1a;", 1, 17);
        fault("guesta 1;", 1, 0);
        good("force=if sum<1then 2else 3;");
        fault("force=ifsum<1 then 2 else 3;", 1, 6);
        good("force=if sum<1then2else3;");
        fault("force=if sum<sumthen 2 else 3;", 1, 13);
    }

    // NAMES (letters a .. z ..), INTS (1 to 4 digits), SIGNS ; = + - * / < ( ). All else is no TOKEN.
    private static void allBytes() {
        for (int b = 0; b < 256; b++) {
            String s = String.valueOf((char) b);
            boolean blank = b == 9 || b == 10 || b == 13 || b == 32;
            boolean letter = b >= 'a' && b <= 'z';
            boolean digit = b >= '0' && b <= '9';
            boolean sign = ";=+-*/<()".indexOf(b) >= 0;
            if (letter) {
                good("guest " + s + " 1;");
                fault("seed 1" + s + ";", 1, 6);
            } else if (digit) {
                good("seed 1" + s + ";");
                fault("guest " + s + " 1;", 1, 6);
            } else if (blank) {
                good("seed 1" + s + ";");
                fault("guest " + s + " 1;", 1, 8);
            } else {
                fault("guest " + s + " 1;", 1, 6);
                fault("seed 1" + s + ";", 1, b == ';' ? 7 : 6);
            }
            boolean goesOn = sign && b != '=' && b != '<' && b != '(' && b != ')' && b != ';';
            if (goesOn) {
                good("force=1" + s + "1;");
            } else if (digit) {
                good("force=1" + s + "1;");
            } else {
                fault("force=1" + s + "1;", 1, blank || b == ';' ? 8 : 7);
            }
        }
        good("force=if 1<(2)then 3*4/5+6-7 else 8;");
    }

    // NAMES (letters a .. z, 8 at most ..). TOKENS, the longest that can be. A longer one is no TOKEN.
    private static void names() {
        for (int length = 1; length <= 8; length++) {
            good("guest " + "q".repeat(length) + " 1;");
            good("guest " + "z".repeat(length) + "1;");
        }
        for (int length : new int[] {9, 10, 16, 17, 100, 1900}) {
            fault("guest " + "q".repeat(length) + " 1;", 1, 6);
        }
        // it is not cut in two
        good(FOOD + "food abcdefgh 1 1 1 1 1;dish d 1 abcdefgh a;");
        fault(FOOD + "food abcdefgh 1 1 1 1 1;dish d 1 abcdefgha;", 1, 50);
        fault("seedguest a 1;", 1, 0);
        fault("foodfooda 1 1 1 1 1;", 1, 0);
        // eight letters are told apart to the last one
        good("guest abcdefgh 1;guest abcdefgi 1;guest bbcdefgh 1;guest abcdefg 1;");
        fault("guest abcdefgh 1;guest abcdefgh 1;", 3, 23);
        fault("guest a 1;guest aa 1;guest aaa 1;guest a 1;", 3, 39);
    }

    // NAMES (.. none of the words in quotes).
    private static void words() {
        for (String word : WORDS) {
            fault("guest " + word + " 1;", 1, 6);
            fault("food " + word + " 1 1 1 1 1;", 1, 5);
            fault("dish " + word + " 1 a;", 1, 5);
            fault("deed " + word + " 1 1;", 1, 5);
            fault(FOOD + "dish d 1 " + word + ";", 1, 26);
            fault(FOOD + "dish d 1 a " + word + ";", 1, 28);
            good("guest " + word + "x 1;");
            good("guest x" + word + " 1;");
            good("guest " + word.substring(1) + " 1;");
            String less = word.substring(0, word.length() - 1);
            good("guest " + less + " 1;");
            good("guest " + word + word.charAt(0) + " 1;");
        }
        for (String no : new String[] {"text", "tell", "law", "part", "unit", "var", "e", "name", "int", "pot", "limit"}) {
            good("guest " + no + " 1;");
        }
    }

    // INTS (1 to 4 digits). A longer one is no TOKEN.
    private static void ints() {
        for (String number : new String[] {"0", "9", "10", "99", "100", "999", "1000", "9999", "0000", "0009"}) {
            good("seed " + number + ";");
            good("force = " + number + ";");
        }
        for (String number : new String[] {"00000", "00001", "10000", "99999", "4294967296", "18446744073709551617"}) {
            fault("seed " + number + ";", 1, 5);
            fault("force = " + number + ";", 1, 8);
            fault("force = 1 + " + number + ";", 1, 12);
        }
        // it is not cut in two
        fault("food a 12345 1 1 1;", 1, 7);
        fault("deed a 00001;", 1, 7);
        fault("seed " + "1".repeat(1900) + ";", 1, 5);
        CookedLaw law = Check.land("guest a 0009; deed b 0002 0099;");
        Check.due("0009", law.guest(0, 0), 9);
        Check.due("0002", law.deed(0, 0), 2);
        Check.due("0099", law.deed(0, 1), 99);
    }

    // FOODS, 6 at most .. numbered each from 0 on as they stand. ROOM: one more of a sort than told (at its first TOKEN).
    private static void foods() {
        String six = times(6, "food ", " 1 2 3 4 5;");
        CookedLaw law = Check.land(six);
        Check.due("FOODS", law.count(0), 6);
        Check.due("the 6th", law.food(5, 4), 5);
        Check.due("no 7th", law.food(6, 0), -1);
        fault(six + "food xg 1 2 3 4 5;", 2, six.length());
        fault(six + "  food", 2, six.length() + 2);
        fault(six + "food food", 2, six.length());
        fault(six + "food xa 100 10 10 10 10;", 2, six.length());
        fault(six + "foods", 1, six.length());
        CookedLaw numbered = Check.land("food b 1 1 1 1 1; guest x 1; food a 2 2 2 2 2; deed y 1 1; food c 3 3 3 3 3;");
        for (int i = 0; i < 3; i++) {
            Check.due("STOCK " + i, numbered.food(i, 0), i + 1);
            Check.due("PRICE " + i, numbered.food(i, 1), i + 1);
        }
        Check.due("none is in it", Check.land("").count(0), 0);
    }

    // DISHES, 5 at most.
    private static void dishes() {
        String five = FOOD + times(5, "dish ", " 1 a;");
        CookedLaw law = Check.land(five);
        Check.due("DISHES", law.count(1), 5);
        Check.due("the 5th", law.dish(4, 1), 1);
        Check.due("no 6th", law.dish(5, 1), -1);
        fault(five + "dish xf 1 a;", 2, five.length());
        fault(five + "\ndish", 2, five.length() + 1);
        fault(five + "dish xa 10 none;", 2, five.length());
        CookedLaw numbered = Check.land(FOOD + "dish c 3 a; guest x 1; dish b 2 a; dish e 5 a;");
        Check.due("HEAT 0", numbered.dish(0, 0), 3);
        Check.due("HEAT 1", numbered.dish(1, 0), 2);
        Check.due("HEAT 2", numbered.dish(2, 0), 5);
    }

    // 1 to 6 FOODS told ahead, each as often as it is in it. ROOM: a 7th FOOD of a DISH (at it).
    private static void foodsOfADish() {
        fault(FOOD + "dish d 1;", 1, 25);
        fault(FOOD + "dish d 1", 1, 25);
        for (int n = 1; n <= 6; n++) {
            CookedLaw law = Check.land(FOOD + "food b 1 1 1 1 1;dish d 1 b" + " a".repeat(n - 1) + ";");
            Check.due("FOODS of " + n, law.dish(0, 1), n);
            Check.due("amount of a", law.amount(0, 0), n - 1);
            Check.due("amount of b", law.amount(0, 1), 1);
        }
        Check.due("six times", Check.land(FOOD + "dish d 1 a a a a a a;").amount(0, 0), 6);
        int seventh = FOOD.length() + 21;
        fault(FOOD + "dish d 1 a a a a a a a;", 2, seventh);
        fault(FOOD + "dish d 1 a a a a a a zz;", 2, seventh);
        fault(FOOD + "dish d 1 a a a a a a d", 2, seventh);
        fault(FOOD + "dish d 1 a a a a a a a a a a a;", 2, seventh);
        fault(FOOD + "dish d 1 a a a a a a sum;", 1, seventh);
        fault(FOOD + "dish d 1 a a a a a a abcdefghi;", 1, seventh);
        fault(FOOD + "dish d 1 a a a a a a", 1, seventh - 1);
        fault(FOOD + "dish d 1 a a a a a b;", 4, seventh - 2);
        good(FOOD + "dish d 1 a a a a a a;dish e 1 a a a a a a;");
        // told ahead
        fault("dish d 1 a;" + FOOD, 4, 9);
        fault("dish d 1 a;", 4, 9);
        fault(FOOD + "dish d 1 a b;food b 1 1 1 1 1;", 4, 28);
        good(FOOD + "guest g 1;dish d 1 a;food b 1 1 1 1 1;dish e 1 b a;");
    }

    // GUESTS, 4 at most.
    private static void guests() {
        String four = times(4, "guest ", " 7;");
        CookedLaw law = Check.land(four);
        Check.due("GUESTS", law.count(2), 4);
        Check.due("the 4th", law.guest(3, 0), 7);
        Check.due("no 5th", law.guest(4, 0), -1);
        fault(four + "guest xe 1;", 2, four.length());
        fault(four + "guest", 2, four.length());
        fault(four + "guest xa 10;", 2, four.length());
        CookedLaw numbered = Check.land("guest c 3; guest b 2; guest e 5;");
        Check.due("PALATE 0", numbered.guest(0, 0), 3);
        Check.due("PALATE 1", numbered.guest(1, 0), 2);
        Check.due("PALATE 2", numbered.guest(2, 0), 5);
    }

    // DEEDS, 6 at most.
    private static void deeds() {
        String six = times(6, "deed ", " 1 8;");
        CookedLaw law = Check.land(six);
        Check.due("DEEDS", law.count(3), 6);
        Check.due("the 6th", law.deed(5, 1), 8);
        Check.due("no 7th", law.deed(6, 0), -1);
        fault(six + "deed xg 1 1;", 2, six.length());
        fault(six + "deed", 2, six.length());
        fault(six + "deed xa 3 100;", 2, six.length());
        CookedLaw numbered = Check.land("deed c 2 3; deed b 0 2; deed e 1 5;");
        Check.due("LIMIT 0", numbered.deed(0, 1), 3);
        Check.due("LIMIT 1", numbered.deed(1, 1), 2);
        Check.due("LIMIT 2", numbered.deed(2, 1), 5);
    }

    // WRONG (at the INT): a number not as told above: (STOCK 0 .. 99, PRICE 0 .. 9, what it brings: 0 .. 9 each), ..
    private static void numbers() {
        number("food a ", 99, " 1 1 1 1;");
        number("food a 1 ", 9, " 1 1 1;");
        number("food a 1 1 ", 9, " 1 1;");
        number("food a 1 1 1 ", 9, " 1;");
        number("food a 1 1 1 1 ", 9, ";");
        number(FOOD + "dish d ", 9, " a;");
        number("guest g ", 9, ";");
        number("deed e ", 2, " 1;");
        number("deed e 1 ", 99, ";");
        number("seed ", 9999, ";");
        for (String law : LAWS) {
            number(law + " = ", 9999, ";");
            number(law + " = if 1 < ", 9999, " then 1 else 1;");
        }
        CookedLaw most = Check.land("food a 99 9 9 9 9; dish d 9 a; guest g 9; deed e 2 99;");
        CookedLaw least = Check.land("food a 0 0 0 0 0; dish d 0 a; guest g 0; deed e 0 0;");
        for (int what = 0; what < 5; what++) {
            Check.due("the most", most.food(0, what), what == 0 ? 99 : 9);
            Check.due("the least", least.food(0, what), 0);
        }
        Check.due("HEAT 9", most.dish(0, 0), 9);
        Check.due("HEAT 0", least.dish(0, 0), 0);
        Check.due("PALATE 9", most.guest(0, 0), 9);
        Check.due("PALATE 0", least.guest(0, 0), 0);
        Check.due("FORCE 2", most.deed(0, 0), 2);
        Check.due("FORCE 0", least.deed(0, 0), 0);
        Check.due("LIMIT 99", most.deed(0, 1), 99);
        Check.due("LIMIT 0", least.deed(0, 1), 0);
    }

    private static void number(String before, int most, String behind) {
        good(before + "0" + behind);
        good(before + most + behind);
        good(before + ("000" + most).substring(String.valueOf(most).length() - 1) + behind);
        if (most < 9999) {
            fault(before + (most + 1) + behind, 5, before.length());
            fault(before + "9999" + behind, 5, before.length());
        }
        fault(before + "10000" + behind, 1, before.length());
    }

    // LAWS: FORCE (sum), BINDS (.. less ago ..), FILLS (0), SLIPS (0), if not told; the last one.
    private static void lastLaw() {
        String land = "food a 50 1 7 7 7;dish d 5 a;guest g 1;deed e 0 1;";
        String[] laws = {"", "force=1;binds=2;fills=3;slips=100;", "force=1;force=sum*2;binds=2;binds=sum*3;fills=3;fills=4;"
            + "slips=100;slips=0;", "force=sum*2;force=1;binds=sum*3;binds=2;fills=4;fills=3;slips=0;slips=100;"};
        int[][] due = {{7, 7, 6, 0, -2}, {1, 2, 2, 3, 0}, {14, 42, 42, 4, -2}, {1, 2, 2, 3, 0}};
        for (int i = 0; i < laws.length; i++) {
            for (int order = 0; order < 2; order++) {
                CookedLaw law = Check.land(order == 0 ? land + laws[i] : laws[i] + land);
                Check.due("slips by " + laws[i], law.cook(0), due[i][4]);
                law.eat(0);
                Check.due("FORCE by " + laws[i], law.dish(0, 3), due[i][0]);
                Check.due("BOUND by " + laws[i], law.guest(0, 3), due[i][1]);
                int left = law.food(0, 0);
                law.days(1);
                Check.due("BOUND a day behind by " + laws[i], law.guest(0, 3), due[i][2]);
                Check.due("filled by " + laws[i], law.food(0, 0) - left, due[i][3]);
            }
        }
    }

    // SEED 0 .. 9999 (0), the last one.
    private static void lastSeed() {
        String land = "food a 50 1 7 7 7;dish d 5 a;slips = ";
        // LOT 100 of SEED 0 is 19, of SEED 9999 it is 85, of SEED 1 too
        String[] seeds = {"", "seed 0;", "seed 9999;seed 0;", "seed 9999;", "seed 0;seed 9999;", "seed 0;seed 0001;"};
        int[] lots = {19, 19, 19, 85, 85, 85};
        for (int i = 0; i < seeds.length; i++) {
            Check.due(seeds[i] + " not less", Check.land(seeds[i] + land + lots[i] + ";").cook(0), -2);
            Check.due(seeds[i] + " less", Check.land(land + (lots[i] + 1) + ";" + seeds[i]).cook(0), 0);
        }
    }
}
