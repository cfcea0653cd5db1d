import java.util.List;

/** The FAULTS of a text at their bounds; above each method stands the sentence that it holds the class to. */
public final class FaultBoundsTest {
    private static final String FOOD = "food a 1 1 1 1 1;";
    private static final String[] LAWS = {"force", "binds", "fills", "slips"};
    private static final List<String> TELLS = List.of("food", "dish", "guest", "deed", "force", "binds", "fills", "slips",
            "seed");
    private static final List<String> VARS = List.of("sum", "heat", "kind", "many", "day", "palate", "ago", "stock", "price");
    private static final List<String> REST = List.of("if", "then", "else", ";", "=", "+", "-", "*", "/", "<", "(", ")");
    private static final List<String> NO_TOKENS = List.of("abcdefghi", "12345", "&", "A", ".", ">", "\u0000", "\u00ff");

    public static void main(String[] args) {
        syntax();
        syntaxAtTheEnd();
        firstByPlace();
        leastOfOnePlace();
        tokens();
        ifs();
        parens();
        otherwiseLater();
        twice();
        noSuchFood();
        wrong();
        firstOfTheLater();
        faultChangesNothing();
        inPlaceOfTheOneAhead();
        oneBehindTheOther();
        manyFaultsAhead();
        Check.end("FaultBoundsTest");
    }

    private static void fault(String text, int number, int place) {
        Check.fault(text, number, place);
    }

    private static void good(String text) {
        fault(text, 0, -1);
    }

    // SYNTAX: a TOKEN, or what is none, with which no text goes on.
    private static void syntax() {
        String all = "food dish guest deed force binds fills slips seed";
        follows("", all);
        follows("seed 1 ;", all);
        for (String[] tell : new String[][] {{"food", "NAME", "INT", "INT", "INT", "INT", "INT", ";"}, {"guest", "NAME", "INT", ";"},
            {"deed", "NAME", "INT", "INT", ";"}, {"seed", "INT", ";"}, {"dish", "NAME", "INT", "NAME", "NAME ;"}}) {
            String before = tell[0];
            for (int i = 1; i < tell.length; i++) {
                follows(before, tell[i]);
                before += tell[i].equals("NAME") ? " x" : " 7";
            }
        }
        follows("dish d 1 a a", "NAME ;");
        follows("dish d 1 a a a a a", "NAME ;");
        follows("dish d 1 a a a a a a", "NAME ;");
        String unit = "INT VAR (";
        String sign = "+ - * / ";
        for (String law : LAWS) {
            follows(law, "=");
            String e = law + " = ";
            for (int ifs = 0; ifs < 4; ifs++) {
                follows(e, unit + " if");
                follows(e + "1", sign + ";");
                follows(e + "if", unit);
                follows(e + "if 1", sign + "<");
                follows(e + "if 1 <", unit);
                follows(e + "if 1 < 1", sign + "then");
                follows(e + "if 1 < 1 then", unit);
                follows(e + "if 1 < 1 then 1", sign + "else");
                e += "if 1 < 1 then 1 else ";
            }
            follows(e + "1", sign + ";");
            inParts(law + " = ", ";");
            inParts(law + " = if ", "<");
            inParts(law + " = if 1 < ", "then");
            inParts(law + " = if 1 < 1 then ", "else");
            inParts(law + " = if 1 < 1 then 1 else ", ";");
        }
    }

    private static void inParts(String before, String end) {
        String unit = "INT VAR (";
        String sign = "+ - * / ";
        follows(before + "sum", sign + end);
        for (String s : sign.trim().split(" ")) {
            follows(before + "1 " + s, unit);
            follows(before + "1 " + s + " sum", sign + end);
            follows(before + "( 1 " + s, unit);
        }
        follows(before + "(", unit);
        follows(before + "( ( ( ( (", unit);
        follows(before + "( 1", sign + ")");
        follows(before + "( ( 1 )", sign + ")");
        follows(before + "( 1 )", sign + end);
        follows(before + "1 - ( 1 )", sign + end);
    }

    /** Behind these TOKENS just those may stand; with each other one no text goes on. */
    private static void follows(String before, String may) {
        List<String> allowed = List.of(may.trim().split(" +"));
        int place = before.isEmpty() ? 0 : before.length() + 1;
        for (List<String> tokens : List.of(TELLS, VARS, REST, NO_TOKENS, List.of("x", "9"))) {
            for (String token : tokens) {
                String sort = token.equals("x") ? "NAME" : token.equals("9") ? "INT" : VARS.contains(token) ? "VAR" : token;
                CookedLaw law = new CookedLaw();
                String text = before.isEmpty() ? token : before + " " + token;
                Check.feed(law, text);
                int read = law.read();
                boolean goesOn = allowed.contains(sort);
                boolean stops = read == 1 && law.place() == place;
                Check.due("no text goes on with the last of " + text, stops, !goesOn);
                boolean seventh = before.endsWith("a a a a a a") && token.equals("x");
                if (goesOn && !seventh) {
                    boolean whole = token.equals(";");
                    Check.due("but a text goes on with it: " + text, read == 1, !whole);
                    Check.due("up to its end: " + text, law.place() == text.length(), !whole);
                }
            }
        }
    }

    // A byte; the text's end: its length.
    private static void syntaxAtTheEnd() {
        String[] texts = {"food a 1 1 1 1 1;", FOOD + "dish d 1 a a;", "guest g 1;", "deed e 1 1;", "seed 1;",
            "force = if 1 < 2 then (3) else 4 + sum;"};
        int[] starts = {0, 17, 0, 0, 0, 0};
        for (int i = 0; i < texts.length; i++) {
            good(texts[i]);
            for (int length = starts[i] + 1; length < texts[i].length(); length++) {
                String cut = texts[i].substring(0, length);
                CookedLaw law = new CookedLaw();
                Check.feed(law, cut);
                Check.due("read() of " + cut, law.read(), 1);
                // a word or a NAME that is cut may be another TOKEN, which no text goes on with
                boolean inWord = cut.matches(".*[a-z]") && texts[i].substring(length).matches("[a-z].*");
                if (!inWord) {
                    Check.due("place() of " + cut, law.place(), length);
                    fault(cut + " \n ", 1, length + 3);
                }
            }
        }
    }

    // FAULTS of a text, the first by its place: SYNTAX or ROOM.
    private static void firstByPlace() {
        String seven = FOOD + "dish d 1 a a a a a a a";
        fault(seven + "&", 2, seven.length() - 1);
        fault("& " + seven, 1, 0);
        fault("force = (((((((&", 2, 14);
        fault("force = ((((((&(", 1, 14);
        fault("guest a 1;guest b 1;guest c 1;guest d 1;guest &", 2, 40);
        fault("guest a 1;guest b 1;guest c 1;guest d &;guest e 1;", 1, 38);
        String four = "force = " + "if 1 < 2 then 3 else ".repeat(4);
        fault(four + "if ;", 2, four.length());
        fault(four + "; force = (((((((", 1, four.length());
        fault("force = (((((((1))))))); " + four + "if", 2, 14);
    }

    // Of one place the least: SYNTAX ahead of ROOM.
    private static void leastOfOnePlace() {
        String full = "seed 1;".repeat(132) + "force=1;";
        for (String token : new String[] {"1", "x", "sum", "if", ";", "=", "+", "(", ")", "&", "12345", "abcdefghi"}) {
            fault(full + token, 1, full.length());
        }
        for (String token : TELLS) {
            fault(full + token, 2, full.length());
        }
        fault(full, 0, -1);
    }

    // ROOM: a 401st TOKEN.
    private static void tokens() {
        String[] last = {"seed 1;seed 1;seed 1;", "guest g 1;deed e 1 1;", "force=(1);binds=1;", "food a 1 1 1 1 1;"};
        int[] count = {9, 9, 10, 8};
        for (int i = 0; i < last.length; i++) {
            String text = tokensInAll(400 - count[i]) + last[i];
            good(text);
            good(text + " \n");
            fault(text + "seed", 2, text.length());
            fault(text + " seed 1;", 2, text.length() + 1);
            fault(text + "&", 1, text.length());
        }
        // the 401st closes a TELL, or stands amid one
        String one = tokensInAll(398) + "seed 1";
        fault(one + ";", 2, one.length());
        fault(one, 1, one.length());
        String two = tokensInAll(399) + "seed";
        fault(two + " 1;", 2, two.length() + 1);
        fault(two + " ;", 1, two.length() + 1);
        fault(two, 1, two.length());
        fault(two + "  ", 1, two.length() + 2);
        String amid = tokensInAll(393) + "force=1+1+1";
        fault(amid + ";", 2, amid.length());
        String law = "force=" + "1+".repeat(198) + "1";
        good(law + ";");
        fault(law + "+1;", 2, law.length() + 1);
        fault(law + ";;", 1, law.length() + 1);
        fault(law + ";seed 1;", 2, law.length() + 1);
        good("force=sum" + "-sum".repeat(198) + ";");
        fault("force=sum" + "-sum".repeat(199) + ";", 2, 9 + 4 * 198 + 1);
        // blanks are no TOKENS
        good(tokensInAll(400).replace(";", " ; "));
    }

    /** So many TOKENS of TELLS that are whole. */
    private static String tokensInAll(int n) {
        StringBuilder all = new StringBuilder();
        int left = n;
        for (; left % 3 != 0; left -= 4) {
            all.append("force=1;");
        }
        return all + "seed 1;".repeat(left / 3);
    }

    // ROOM: a 5th if of a LAW (at it).
    private static void ifs() {
        String branch = "if sum<1 then 2 else ";
        for (String law : LAWS) {
            for (int n = 0; n <= 4; n++) {
                good(law + "=" + branch.repeat(n) + "3;");
            }
            String four = law + "=" + branch.repeat(4);
            fault(four + branch + "3;", 2, four.length());
            fault(four + "if", 2, four.length());
            fault(four + "ifs", 1, four.length());
            fault(four, 1, four.length());
        }
        // of a LAW: each one has four of its own
        good("force=" + branch.repeat(4) + "3;force=" + branch.repeat(4) + "3;binds=" + branch.repeat(4) + "3;");
    }

    // ROOM: a 7th ( within one another (at it).
    private static void parens() {
        String[] before = {"", "if ", "if 1<", "if 1<1 then ", "if 1<1 then 1 else "};
        String[] behind = {";", "<1 then 1 else 1;", " then 1 else 1;", " else 1;", ";"};
        for (String law : LAWS) {
            for (int i = 0; i < before.length; i++) {
                String start = law + "=" + before[i];
                for (int deep = 1; deep <= 6; deep++) {
                    good(start + "(".repeat(deep) + "1" + ")".repeat(deep) + behind[i]);
                }
                fault(start + "(((((((1)))))))" + behind[i], 2, start.length() + 6);
                fault(start + "(((((((", 2, start.length() + 6);
                fault(start + "((((((1", 1, start.length() + 7);
                fault(start + "((((((1)))))))", 1, start.length() + 13);
            }
        }
        // those that are closed are not within one another
        good("force=((((((1))))))+((((((2))))))*((((((3))))));");
        good("force=(((((1)*(2)-(3)))));");
        good("force=((((((1)+(1))+(1))+(1))+(1))+(1));");
        fault("force=(((((1)*((2))-((((3)))))));", 2, 22);
        fault("force=if((((((1))))))<(((((((", 2, 28);
        fault("force=if((((((1))))))<((((((2))))))then(((((((", 2, 45);
        fault("force=if 1<2 then((((((3))))))else(((((((", 2, 40);
        good("force=" + "(1)+".repeat(90) + "1;");
        good("force=if((((((1))))))<((((((2))))))then((((((3))))))else((((((4))))));");
    }

    // If there is none, likewise: TWICE, NAME, WRONG come behind each SYNTAX and ROOM, wherever these are.
    private static void otherwiseLater() {
        String[] late = {FOOD + FOOD, FOOD + "dish d 1 b;", "guest g 10;"};
        int[] number = {3, 4, 5};
        int[] place = {22, 26, 8};
        for (int i = 0; i < late.length; i++) {
            fault(late[i], number[i], place[i]);
            fault(late[i] + "&", 1, late[i].length());
            fault(late[i] + "seed", 1, late[i].length() + 4);
            fault(late[i] + "force=(((((((", 2, late[i].length() + 12);
            int tokens = new int[] {16, 13, 4}[i];
            fault(late[i] + tokensInAll(400 - tokens), number[i], place[i]);
            fault(late[i] + tokensInAll(400 - tokens) + "seed", 2,
                    late[i].length() + tokensInAll(400 - tokens).length());
            fault("&" + late[i], 1, 0);
        }
    }

    // TWICE: a NAME told already (all together).
    private static void twice() {
        String[] tells = {"food q 1 1 1 1 1;", "dish q 1 a;", "guest q 1;", "deed q 1 1;"};
        int[] names = {5, 5, 6, 5};
        for (int first = 0; first < 4; first++) {
            for (int second = 0; second < 4; second++) {
                String ahead = FOOD + tells[first];
                fault(ahead + tells[second], 3, ahead.length() + names[second]);
                fault(ahead + "seed 1;" + tells[second] + tells[first], 3, ahead.length() + 7 + names[second]);
            }
            good(FOOD + tells[first]);
        }
        // all 21 NAMES that there can be: each of them is told already, the last one too
        StringBuilder all = new StringBuilder();
        for (int i = 0; i < 6; i++) {
            all.append("food f").append((char) ('a' + i)).append(" 1 1 1 1 1;");
        }
        for (int i = 0; i < 5; i++) {
            all.append("dish d").append((char) ('a' + i)).append(" 1 ff;deed e").append((char) ('a' + i)).append(" 1 1;");
        }
        for (int i = 0; i < 4; i++) {
            all.append("guest g").append((char) ('a' + i)).append(" 1;");
        }
        good(all + "deed last 1 1;");
        for (String name : new String[] {"fa", "ff", "da", "de", "ea", "ee", "ga", "gd"}) {
            fault(all + "deed " + name + " 1 1;", 3, all.length() + 5);
        }
        fault("deed last 1 1;" + all.toString().replace("gd", "last"), 3, 14 + all.length() - 5);
        // a NAME in a DISH is not told there
        good(FOOD + "dish d 1 a a;dish e 1 a;");
        fault("dish d 1 z;food z 1 1 1 1 1;food z 1 1 1 1 1;", 4, 9);
    }

    // NAME: (at it) no such FOOD told ahead (a NAME told more than once is that of the first one).
    private static void noSuchFood() {
        fault("dish d 1 a;", 4, 9);
        fault(FOOD + "dish d 1 aa;", 4, 26);
        fault(FOOD + "dish d 1 d;", 4, 26);
        fault(FOOD + "guest g 1;dish d 1 g;", 4, 36);
        fault(FOOD + "deed e 1 1;dish d 1 e;", 4, 37);
        fault(FOOD + "dish c 1 a;dish d 1 c;", 4, 37);
        fault(FOOD + "dish d 1 b;food b 1 1 1 1 1;", 4, 26);
        for (int many = 1; many < 6; many++) {
            fault(FOOD + "dish d 1" + " a".repeat(many) + " b;", 4, 26 + 2 * many);
        }
        // that of the first one, a FOOD or none; TWICE is ahead of it in the text then
        fault("guest a 1;" + FOOD + "dish d 1 a;", 3, 15);
        fault(FOOD + "guest a 1;dish d 1 a;", 3, 23);
        fault(FOOD + "dish a 1 a;", 3, 22);
    }

    // WRONG (at the INT): a number not as told above.
    private static void wrong() {
        String[] texts = {"food a 100 1 1 1 1;", "food a 1 10 1 1 1;", "food a 1 1 10 1 1;", "food a 1 1 1 10 1;",
            "food a 1 1 1 1 10;", "dish d 10 a;", "guest g 10;", "deed e 3 1;", "deed e 1 100;"};
        int[] places = {7, 9, 11, 13, 15, 7, 8, 7, 9};
        for (int i = 0; i < texts.length; i++) {
            fault(texts[i], 5, places[i]);
            String ahead = "food x 99 9 9 9 9;guest y 9;deed z 2 99;seed 9999;";
            fault(ahead + texts[i] + "guest w 10;", 5, ahead.length() + places[i]);
        }
        good("force = 9999; binds = 9999; fills = 9999; slips = 9999; seed 9999;");
    }

    // The first by its place: TWICE, NAME or WRONG.
    private static void firstOfTheLater() {
        fault("food a 100 1 1 1 1;" + FOOD + "dish d 1 b;", 5, 7);
        fault(FOOD + "dish d 1 b;" + FOOD + "guest g 10;", 4, 26);
        fault(FOOD + FOOD + "dish d 1 b;guest g 10;", 3, 22);
        fault(FOOD + "guest a 10;", 3, 23);
        fault(FOOD + "dish d 10 b;", 5, 24);
        fault(FOOD + "dish a 10 b;", 3, 22);
        fault(FOOD + "dish d 1 b c;", 4, 26);
        fault(FOOD + "dish d 1 a c b;", 4, 28);
        fault("deed e 3 100;", 5, 7);
        fault("food a 100 10 10 10 10;", 5, 7);
    }

    // Read on its own: nothing of a text ahead of it, with a FAULT or without, is left in it.
    private static void oneBehindTheOther() {
        String six = "((((((2))))))";
        String whole = FOOD + "food b 1 1 1 1 1;dish d 1 a b;dish e 1 b;guest g 1;deed f 1 1;"
                + "force=1-(2-((((2)))));binds=9;fills=8;slips=100;seed 4711;";
        String[] ahead = {"", whole, "force=((((((", "force=1-(2-(3*", "force=1+", "force=if 1<(", whole + "&", whole + FOOD,
            "force=(((((((", whole + "deed q 3 1;"};
        for (String one : ahead) {
            for (String other : ahead) {
                CookedLaw law = new CookedLaw();
                Check.feed(law, one);
                law.read();
                Check.feed(law, other);
                law.read();
                Check.feed(law, whole);
                Check.due("read()", law.read(), 0);
                Check.due("FORCE 1 - (2 - 2)", law.dish(0, 3), 1);
                Check.feed(law, FOOD + "food c 5 1 1 1 1;dish e 1 a;guest g 1;deed d 0 1;fills=1+" + six + "-1;");
                Check.due("read() of six", law.read(), 0);
                Check.due("FORCE is sum", law.dish(0, 3), 1);
                Check.due("FOODS", law.dish(0, 1), 1);
                Check.due("FILLS", law.stockIn(0, 1), 3);
                Check.due("SLIPS is 0, SEED is 0", law.year(0, 0, 2, 20), 0);
                law.cook(0);
                Check.due("BINDS is that FORCE less ago", law.eat(0), 0);
                Check.due("and less", law.boundIn(0, 0, 1), 0);
                Check.feed(law, "food a 9 1 1 1 1;food b 9 1 1 1 1;food c 9 1 1 1 1;dish d 1 a;slips=20;");
                Check.due("read()", law.read(), 0);
                Check.due("SEED is 0: LOT 19, of 3 FOODS 1", law.cook(0), 1);
                Check.due("FILLS is 0", law.stockIn(0, 9), 8);
            }
        }
    }

    // The same, if many texts with a FAULT are ahead of it.
    private static void manyFaultsAhead() {
        CookedLaw law = new CookedLaw();
        for (int i = 0; i < 40; i++) {
            Check.feed(law, "force=1-1*(1-1*(1-1*(1-1*(");
            Check.due("read()", law.read(), 1);
            Check.due("place()", law.place(), 26);
        }
        Check.feed(law, FOOD + "dish d 1 a;force=50-(20-(8-(1-(1-(1-(1-1))))));");
        Check.due("read()", law.read(), 0);
        Check.due("50 - (20 - (8 - (1 - (1 - (1 - 0)))))", law.dish(0, 3), 50 - (20 - (8 - (1 - (1 - (1 - 0))))));
    }

    private static CookedLaw lived() {
        CookedLaw law = new CookedLaw();
        Check.feed(law, "food a 9 1 1 2 3;food b 9 2 4 1 1;dish d 3 a b;guest g 4;deed e 0 3;"
                + "force=sum+heat;binds=sum-ago*palate;fills=1;slips=100;seed 5;");
        law.read();
        law.days(1);
        law.cook(0);
        law.hold(2);
        law.eat(0);
        law.tell(0, 3, 8);
        law.tell(1, 2, 5);
        return law;
    }

    // A text with a FAULT changes nothing but the tape.
    private static void faultChangesNothing() {
        String good = "food c 1 9 9 9 9;force=1;binds=2;fills=3;slips=4;seed 6;";
        String[] bad = {good + "&", good + "seed", "((", good + "force=(((((((", good + FOOD + FOOD, good + "dish d 1 z;",
            good + "guest g 10;", good + "guest g 1;".repeat(5), "food q 1 1 1 1 1;".repeat(7)};
        int[] number = {1, 1, 1, 2, 3, 4, 5, 2, 2};
        for (int i = 0; i < bad.length; i++) {
            CookedLaw law = lived();
            Check.feed(law, bad[i]);
            Check.due("read() of " + bad[i], law.read(), number[i]);
            CookedLaw other = lived();
            String with = Check.seen(law);
            String without = Check.seen(other);
            Check.due("nothing else changes by " + bad[i], with.substring(with.indexOf(" left")).equals(
                    without.substring(without.indexOf(" left"))), true);
        }
    }

    // Else it is in place of the one ahead: day 0, nothing served, nobody has eaten, nothing paid; nothing can be
    // undone, nothing is TOLD, SLOTS hold nothing.
    private static void inPlaceOfTheOneAhead() {
        String[] texts = {"", " ", "seed 5;", "guest g 4;", "food a 9 1 1 2 3;food b 9 2 4 1 1;dish d 3 a b;guest g 4;deed e 0 3;"};
        for (String text : texts) {
            CookedLaw law = lived();
            Check.feed(law, text);
            Check.due("read() of " + text, law.read(), 0);
            for (int what = 4; what < 16; what++) {
                Check.due("anew count(" + what + ")", law.count(what), what == 6 ? -2 : 0);
            }
            Check.due("undo()", law.undo(), false);
            Check.due("restore(2)", law.restore(2), false);
            Check.due("forget()", law.forget(), 0);
            Check.due("blame(1)", law.blame(1), -1);
            CookedLaw fresh = new CookedLaw();
            Check.feed(fresh, text);
            fresh.read();
            Check.due("as in a new object: " + text, Check.seen(law).equals(Check.seen(fresh)), true);
        }
    }
}
