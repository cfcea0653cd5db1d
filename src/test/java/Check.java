/** What the tests share: a count of wrong answers, and texts put on the tape of a CookedLaw. */
final class Check {
    private static int wrong;
    private static int asked;

    private Check() {
    }

    /** A call, or some calls, on a CookedLaw. */
    interface Ask {
        int of(CookedLaw law);
    }

    /** Makes a CookedLaw, each time alike. */
    interface Make {
        CookedLaw one();
    }

    static void due(String call, long got, long want) {
        asked++;
        if (got != want) {
            wrong++;
            System.out.println(call + " answered " + got + ", due is " + want);
        }
    }

    static void due(String call, boolean got, boolean want) {
        due(call, got ? 1 : 0, want ? 1 : 0);
    }

    static void end(String test) {
        System.out.println(test + ": " + asked + " asked, " + wrong + " wrong");
        if (wrong > 0) {
            System.exit(1);
        }
    }

    /** Puts a text behind the tape, to the byte. */
    static void feed(CookedLaw law, String text) {
        int pad = (20 - text.length() % 20) % 20;
        String padded = text + " ".repeat(pad);
        for (int i = 0; i < padded.length(); i += 20) {
            law.feed(word(padded, i), word(padded, i + 4), word(padded, i + 8), word(padded, i + 12), word(padded, i + 16));
        }
        law.back(pad);
    }

    static int word(String text, int from) {
        int word = 0;
        for (int i = from; i < from + 4; i++) {
            word = word << 8 | text.charAt(i) & 255;
        }
        return word;
    }

    /** A new CookedLaw that has read a text without a FAULT. */
    static CookedLaw land(String text) {
        CookedLaw law = new CookedLaw();
        feed(law, text);
        due("read() of " + text, law.read(), 0);
        due("place() of " + text, law.place(), -1);
        return law;
    }

    static void fault(String text, int number, int place) {
        CookedLaw law = new CookedLaw();
        feed(law, text);
        due("bytes of " + text, law.count(10), text.length());
        due("read() of " + text, law.read(), number);
        due("place() of " + text, law.place(), place);
        due("bytes behind read() of " + text, law.count(10), 0);
    }

    /** The call is answered so, and behind it all is as in a CookedLaw in which it was not made. */
    static void refused(String call, Make make, Ask ask, int want) {
        CookedLaw law = make.one();
        due(call, ask.of(law), want);
        String with = seen(law);
        String without = seen(make.one());
        due("nothing happens: " + call, with.equals(without), true);
        if (!with.equals(without)) {
            System.out.println("  with it    " + with + "\n  without it " + without);
        }
    }

    /** All that can be seen of a CookedLaw, up to its SLOTS and what can be undone; it goes back to its start by that. */
    static String seen(CookedLaw law) {
        StringBuilder all = new StringBuilder("place " + law.place());
        told(law, all);
        state(law, all);
        for (int i = law.count(11); i >= 0; i--) {
            all.append("\n undo ").append(law.undo());
            counts(law, all);
        }
        for (int slot = 0; slot < 3; slot++) {
            all.append("\n restore ").append(law.restore(slot));
            state(law, all);
        }
        all.append("\n read ").append(law.read()).append(' ').append(law.place());
        counts(law, all);
        return all.toString();
    }

    private static void told(CookedLaw law, StringBuilder all) {
        for (int k = 0; k <= law.count(12); k++) {
            all.append(" left ").append(law.blame(k));
        }
        for (int dish = 0; dish < law.count(1); dish++) {
            for (int food = 0; food < law.count(0); food++) {
                all.append(' ').append(law.amount(dish, food));
            }
            for (int what = 0; what < 6; what++) {
                all.append(' ').append(law.dish(dish, what));
            }
        }
    }

    private static void state(CookedLaw law, StringBuilder all) {
        counts(law, all);
        for (int food = 0; food < law.count(0); food++) {
            all.append(" food ").append(law.food(food, 0)).append(' ').append(law.stockIn(food, 1));
        }
        for (int dish = 0; dish < law.count(1); dish++) {
            all.append(" dish ").append(law.dish(dish, 6));
        }
        for (int guest = 0; guest < law.count(2); guest++) {
            for (int what = 1; what < 6; what++) {
                all.append(what == 1 ? " guest " : " ").append(law.guest(guest, what));
            }
        }
    }

    private static void counts(CookedLaw law, StringBuilder all) {
        for (int what = 0; what < 16; what++) {
            all.append(' ').append(law.count(what));
        }
    }
}
