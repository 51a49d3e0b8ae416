/** Counts answers that are not as due, and says a text to the TAPE of an object. */
final class Check {
    private static int asked = 0;
    private static int wrong = 0;

    private Check() {
    }

    static void due(String call, int got, int want) {
        asked++;
        if (got != want) {
            wrong++;
            System.out.println(call + " answered " + got + ", due is " + want);
        }
    }

    static void due(String call, boolean got, boolean want) {
        due(call, got ? 1 : 0, want ? 1 : 0);
    }

    /** Puts the text on the empty TAPE. */
    static void tape(ChordHerds x, String text) {
        int fives = (text.length() + 19) / 20;
        for (int i = 0; i < fives; i++) {
            int at = i * 20;
            x.feed(four(text, at), four(text, at + 4), four(text, at + 8), four(text, at + 12), four(text, at + 16));
        }
        due("end of a text", x.end(text.length()), text.length());
    }

    private static int four(String text, int at) {
        int bytes = 0;
        for (int i = at; i < at + 4; i++) {
            bytes = bytes << 8 | (i < text.length() ? text.charAt(i) & 255 : 0);
        }
        return bytes;
    }

    /** A new object with that VALLEY, which has so many BELLS. */
    static ChordHerds told(String text, int bells) {
        ChordHerds x = new ChordHerds();
        tape(x, text);
        due("valley() of " + text, x.valley(), bells);
        return x;
    }

    /** The text has this FAULT at this place, on a new object. */
    static void faulty(String text, int fault, int place) {
        ChordHerds x = new ChordHerds();
        tape(x, text);
        due("valley() of " + text, x.valley(), fault == 0 ? x.about(1) + x.about(2) : ChordHerds.NONE);
        due("fault(0) of " + text, x.fault(0), fault);
        due("fault(1) of " + text, x.fault(1), place);
    }

    static void finish(String test) {
        System.out.println(test + ": " + asked + " answers, " + wrong + " not as due");
        if (wrong != 0 || asked == 0) {
            System.exit(1);
        }
    }
}
