/** What the tests share: a count of wrong answers, and texts put on the tape of a CookedLaw. */
final class Check {
    private static int wrong;
    private static int asked;

    private Check() {
    }

    static void due(String call, long got, long want) {
        asked++;
        if (got != want) {
            wrong++;
            System.out.println(call + " answered " + got + ", due is " + want);
        }
    }

    static void due(String call, boolean got, boolean want) {
        due(call, got ? 1 : 0, want ? 1 : 0);
    }

    static void end(String test) {
        System.out.println(test + ": " + asked + " asked, " + wrong + " wrong");
        if (wrong > 0) {
            System.exit(1);
        }
    }

    /** Puts a text behind the tape, to the byte. */
    static void feed(CookedLaw law, String text) {
        int pad = (20 - text.length() % 20) % 20;
        String padded = text + " ".repeat(pad);
        for (int i = 0; i < padded.length(); i += 20) {
            law.feed(word(padded, i), word(padded, i + 4), word(padded, i + 8), word(padded, i + 12), word(padded, i + 16));
        }
        law.back(pad);
    }

    private static int word(String text, int from) {
        int word = 0;
        for (int i = from; i < from + 4; i++) {
            word = word << 8 | text.charAt(i) & 255;
        }
        return word;
    }

    /** A new CookedLaw that has read a text without a FAULT. */
    static CookedLaw land(String text) {
        CookedLaw law = new CookedLaw();
        feed(law, text);
        due("read() of " + text, law.read(), 0);
        due("place() of " + text, law.place(), -1);
        return law;
    }

    static void fault(String text, int number, int place) {
        CookedLaw law = new CookedLaw();
        feed(law, text);
        due("bytes of " + text, law.count(10), text.length());
        due("read() of " + text, law.read(), number);
        due("place() of " + text, law.place(), place);
        due("bytes behind read() of " + text, law.count(10), 0);
    }
}
