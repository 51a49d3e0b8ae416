/** Promises 14 to 18: ENTRIES, told and untold, and the TIME. */
public final class EntriesTest {
    private static final String TEXT = "herd h;beast a of h bell 0 loud 10;beast b of h bell 3 loud 99;"
        + "stranger s bell 3 loud 99;ear e at 0;ear f at 5;";
    private static final int LEAST = Integer.MIN_VALUE;
    private static final int GREATEST = Integer.MAX_VALUE;

    public static void main(String[] args) {
        sounds();
        evenings();
        notes();
        loudNotes();
        fortyEntries();
        knownAt();
        times();
        Check.finish("EntriesTest");
    }

    private static void sounds() {
        ChordHerds x = Check.told(TEXT, 3);
        int[][] wrong = {{-1, 0, 0, 0, 0}, {96, 0, 0, 0, 0}, {0, -1, 0, 0, 0}, {0, 2, 0, 0, 0}, {0, 0, -1, 0, 0},
            {0, 0, 12, 0, 0}, {0, 0, 0, -1, 0}, {0, 0, 0, 5, 4}, {0, 0, 0, 0, 1000}, {0, 0, 0, 1000, 1000},
            {LEAST, 0, 0, 0, 0}, {GREATEST, 0, 0, 0, 0}, {0, LEAST, 0, 0, 0}, {0, GREATEST, 0, 0, 0},
            {0, 0, LEAST, 0, 0}, {0, 0, GREATEST, 0, 0}, {0, 0, 0, LEAST, GREATEST}, {0, 0, 0, 0, GREATEST},
            {0, 0, 0, 0, LEAST}};
        for (int[] w : wrong) {
            Check.due("a SOUND that can't be", x.sound(w[0], w[1], w[2], w[3], w[4]), -1);
        }
        Check.due("ENTRIES", x.about(7), 0);
        Check.due("the least", x.sound(0, 0, 0, 0, 0), 0);
        Check.due("the greatest", x.sound(95, 1, 11, 999, 999), 1);
        Check.due("ENTRIES", x.about(7), 2);
        Check.due("none without an EAR", new ChordHerds().sound(0, 0, 0, 0, 0), -1);
    }

    private static void evenings() {
        ChordHerds x = Check.told(TEXT, 3);
        int[][] wrong = {{-1, 0}, {21, 0}, {0, -1}, {0, 4096}, {LEAST, 0}, {GREATEST, 0}, {0, LEAST}, {0, GREATEST}};
        for (int[] w : wrong) {
            Check.due("an EVENING that can't be", x.evening(w[0], w[1]), -1);
        }
        Check.due("the least", x.evening(0, 0), 0);
        Check.due("a SOUND between", x.sound(0, 0, 0, 0, 0), 1);
        Check.due("the greatest", x.evening(20, 4095), 2);
    }

    private static void notes() {
        ChordHerds x = Check.told(TEXT, 3);
        int[][] wrong = {{-1, 0, 0, 0}, {96, 0, 0, 0}, {0, -1, 0, 0}, {0, 2, 0, 0}, {0, 0, -1, 0}, {0, 0, 12, 0},
            {0, 0, 0, -1}, {0, 0, 0, 100}, {LEAST, 0, 0, 0}, {0, GREATEST, 0, 0}, {0, 0, LEAST, 0},
            {0, 0, 0, LEAST}, {0, 0, 0, GREATEST}};
        for (int[] w : wrong) {
            Check.due("a note that can't be", x.note(w[0], w[1], w[2], w[3]), -1);
        }
        Check.due("ENTRIES", x.about(7), 0);
        x.walk(2, 1);
        Check.due("7 of TONE 0 at the first EAR, give or take 2", x.note(9, 0, 0, 2), 0);
        Check.due("PLACES 0 to 4", x.sets(9, 1, 3, 0), 5);
        Check.due("the least", x.sets(9, 1, 4, 0), 0);
        Check.due("the greatest", x.sets(9, 1, 5, 0), 4);
        Check.due("a SURE BELL", x.sets(9, 1, 1, 0), 1);
        Check.due("give or take 99, not below 0", x.note(10, 0, 0, 99), 1);
        Check.due("all sets at all PLACES", x.sets(10, 0, 0, 0), 8);
        Check.due("PLACES", x.sets(10, 0, 3, 0), 100);
        x.crack(0, 1);
        x.years(2);
        Check.due("the TONE of the YEAR", x.note(11, 0, 10, 0), 2);
        Check.due("no BELL has it as told", x.sets(11, 0, 0, 0), 0);
    }

    private static void loudNotes() {
        StringBuilder text = new StringBuilder("herd h;ear e at 0;ear f at 90;");
        for (char name = 'a'; name < 'j'; name++) {
            text.append("beast ").append(name).append(" of h bell 0 loud 99;");
        }
        text.append("stranger s bell 0 loud 99;stranger t bell 0 loud 99;");
        ChordHerds x = Check.told(text.toString(), 11);
        x.comes(9, true);
        Check.due("hear", x.hear(0, 0), 990);
        Check.due("up to 999", x.note(0, 0, 0, 9), 0);
        Check.due("no SOUND is above 999", x.note(0, 0, 0, 10), -1);
        Check.due("ENTRIES", x.about(7), 1);
        x.comes(10, true);
        Check.due("hear all", x.hear(0, 0), 1089);
        Check.due("no SOUND either", x.note(0, 0, 0, 0), -1);
        Check.due("981 to 999: any ten at PLACE 0, or all at 9", x.sets(0, 0, 0, 0), 12);
        Check.due("PLACES 0 and 9", x.sets(0, 0, 3, 0), 2);
    }

    private static void fortyEntries() {
        ChordHerds x = Check.told(TEXT, 3);
        for (int i = 0; i < 40; i++) {
            int got = i % 3 == 0 ? x.evening(1, 1) : i % 3 == 1 ? x.sound(1, 1, 1, 1, 1) : x.note(1, 1, 1, 1);
            Check.due("the number", got, i);
        }
        Check.due("untell(39)", x.untell(39), true);
        Check.due("a SOUND too many", x.sound(0, 0, 0, 0, 0), -1);
        Check.due("an EVENING too many", x.evening(0, 0), -1);
        Check.due("a note too many", x.note(0, 0, 0, 0), -1);
        Check.due("ENTRIES", x.about(7), 40);
        Check.due("untell(40)", x.untell(40), false);
    }

    private static void knownAt() {
        ChordHerds x = Check.told(TEXT, 3);
        x.later(5);
        Check.due("TOLD at 5", x.sound(0, 0, 0, 10, 10), 0);
        Check.due("at 4", x.sets(0, 0, 0, 4), 8);
        Check.due("at 5", x.sets(0, 0, 0, 5), 4);
        Check.due("at the greatest", x.sets(0, 0, 0, GREATEST), 4);
        Check.due("at the least", x.sets(0, 0, 0, LEAST), 8);
        x.later(2);
        Check.due("untell(0)", x.untell(0), true);
        Check.due("untell(0) again", x.untell(0), false);
        Check.due("at 6", x.sets(0, 0, 0, 6), 4);
        Check.due("at 7", x.sets(0, 0, 0, 7), 8);
        Check.due("at 4 still", x.sets(0, 0, 0, 4), 8);
        x.sound(0, 0, 0, 10, 10);
        Check.due("UNTOLD at the same TIME", x.untell(1), true);
        Check.due("it never counts", x.sets(0, 0, 0, 7), 8);
        int[] wrong = {-1, 2, LEAST, GREATEST};
        for (int entry : wrong) {
            Check.due("untell(" + entry + ")", x.untell(entry), false);
        }
    }

    private static void times() {
        ChordHerds x = new ChordHerds();
        Check.due("later(0)", x.later(0), 0);
        Check.due("later(1001)", x.later(1001), -1);
        Check.due("later(-1)", x.later(-1), -1);
        Check.due("later(least)", x.later(LEAST), -1);
        Check.due("later(greatest)", x.later(GREATEST), -1);
        for (int i = 1; i < 100; i++) {
            Check.due("later(1000)", x.later(1000), i * 1000);
        }
        Check.due("later(999)", x.later(999), 99999);
        Check.due("later(2) above 100000", x.later(2), -1);
        Check.due("TIME", x.about(8), 99999);
        Check.due("later(1)", x.later(1), 100000);
        Check.due("later(1) above", x.later(1), -1);
        Check.due("later(0) at the last", x.later(0), 100000);
    }
}
