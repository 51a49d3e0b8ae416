/** ==== 2 and ==== 3 of the document, sentence by sentence: the edges of what is LOUD, what counts and what can be. */
public final class SearchEdgesTest {
    private static final int LEAST = Integer.MIN_VALUE;
    private static final int GREATEST = Integer.MAX_VALUE;
    private static final String ONE = "herd h;beast a of h bell 0 loud 10;ear e at 50;ear f at 60;";

    public static void main(String[] args) {
        loudZeroAtLeast();
        toneOfTheYear();
        inEarnestAtFirst();
        toldAndUntoldAtK();
        countsInEachSearch();
        untoldAtTheSameTime();
        soundFromLeastToMost();
        soundsOfOtherQuarters();
        notesBelowZeroAndAbove999();
        placesAtTheEnds();
        onePlaceForAllEars();
        setsFoundAtLaterPlaces();
        sureAndQuiet();
        setsOfNothing();
        partedByThisAloneAndThatAlone();
        mixedAndItsLeastSet();
        springStaysAndGoes();
        cameFromTheFirstToNotAtAll();
        otherStrangersNever();
        Check.finish("SearchEdgesTest");
    }

    private static void loudZeroAtLeast() {
        ChordHerds x = Check.told(ONE, 1);
        int[][] want = {{50, 0, 10, 0}, {51, 0, 9, 1}, {59, 0, 1, 9}, {60, 0, 0, 10}, {61, 0, 0, 9}, {41, 0, 1, 0},
            {40, 0, 0, 0}, {39, 0, 0, 0}, {50, 9, 1, 0}, {50, 10, 0, 0}, {50, 11, 0, 0}, {55, 4, 1, 1}, {55, 5, 0, 0},
            {0, 0, 0, 0}, {99, 20, 0, 0}};
        for (int[] w : want) {
            x.walk(w[0], w[1]);
            String at = " at " + w[0] + " in " + w[1];
            Check.due("the first EAR" + at, x.hear(0, 0), w[2]);
            Check.due("the second EAR" + at, x.hear(1, 0), w[3]);
            Check.due("CHORD of the first" + at, x.chord(0), w[2] > 0 ? 1 : 0);
            Check.due("CHORD of the second" + at, x.chord(1), w[3] > 0 ? 1 : 0);
        }
        ChordHerds far = Check.told("stranger s bell 11 loud 99;ear e at 0;ear f at 99;", 1);
        far.comes(0, true);
        far.walk(98, 0);
        Check.due("99 - 98", far.hear(0, 11), 1);
        far.walk(99, 0);
        Check.due("99 - 99", far.hear(0, 11), 0);
        Check.due("99 at its own PLACE", far.hear(1, 11), 99);
        far.walk(0, 0);
        Check.due("99 - 99 the other way", far.hear(1, 11), 0);
    }

    /** (bell - CREEP * YEAR) modulo 12, all the way to the last YEAR. */
    private static void toneOfTheYear() {
        ChordHerds x = Check.told("herd h;beast a of h bell 0 loud 1;beast b of h bell 11 loud 1;"
            + "stranger s bell 0 loud 1;ear e at 0;", 3);
        x.crack(0, 1);
        x.crack(1, 2);
        x.crack(2, 2);
        for (int year = 0; year <= 200; year += 5) {
            Check.due("YEAR", x.about(6), year);
            Check.due("0 - YEAR", x.bell(0, 0), ((0 - year) % 12 + 12) % 12);
            Check.due("11 - 2 * YEAR", x.bell(1, 0), ((11 - 2 * year) % 12 + 12) % 12);
            Check.due("of a STRANGER", x.bell(2, 0), ((0 - 2 * year) % 12 + 12) % 12);
            Check.due("years(5)", x.years(5), year < 200 ? year + 5 : -1);
        }
        x.crack(0, 0);
        Check.due("without CREEP as told", x.bell(0, 0), 0);
        Check.due("as it rings", x.hear(0, 0), 1);
    }

    private static void inEarnestAtFirst() {
        ChordHerds x = Check.told("herd h;stranger s bell 0 loud 9;beast a of h bell 0 loud 4;stranger t bell 0 loud 9;"
            + "beast b of h bell 0 loud 3;ear e at 0;", 4);
        for (int bell = 0; bell < 4; bell++) {
            Check.due("THERE", x.bell(bell, 4), bell % 2);
            Check.due("STANDS", x.bell(bell, 5), 0);
            Check.due("CREEP", x.bell(bell, 3), 0);
        }
        Check.due("BEASTS alone ring", x.hear(0, 0), 7);
        x.comes(0, true);
        Check.due("and a STRANGER that came", x.hear(0, 0), 16);
        x.stand(0, true);
        Check.due("not one that STANDS", x.hear(0, 0), 7);
    }

    /** TOLD at 3, UNTOLD at 6: it counts at 3, 4, 5. */
    private static void toldAndUntoldAtK() {
        ChordHerds x = Check.told(ONE, 1);
        x.later(3);
        x.sound(0, 0, 0, 10, 10);
        x.later(3);
        x.untell(0);
        for (int k = -1; k < 9; k++) {
            Check.due("sets at " + k, x.sets(0, 0, 0, k), k >= 3 && k < 6 ? 1 : 2);
        }
        Check.due("sets at the least", x.sets(0, 0, 0, LEAST), 2);
        Check.due("sets at the greatest", x.sets(0, 0, 0, GREATEST), 2);
        x.later(1);
        Check.due("UNTOLD but once", x.untell(0), false);
        Check.due("so it stays UNTOLD at 6", x.sets(0, 0, 0, 6), 2);
        Check.due("it is an ENTRY still", x.about(7), 1);
        Check.due("the next one's number", x.sound(0, 0, 0, 10, 10), 1);
        Check.due("counts at 7", x.sets(0, 0, 0, 7), 1);
        Check.due("counts at the greatest", x.sets(0, 0, 0, GREATEST), 1);
        Check.due("not at 6", x.sets(0, 0, 0, 6), 2);
    }

    private static void countsInEachSearch() {
        ChordHerds x = Check.told(ONE + "stranger s bell 0 loud 5;", 2);
        x.spring(0, 50, 1, 60, 0);
        x.later(3);
        x.sound(0, 0, 0, 10, 10);
        x.evening(1, 1 << 11);
        x.evening(0, 2);
        x.later(3);
        x.untell(0);
        x.untell(1);
        x.untell(2);
        int[] ks = {LEAST, 2, 3, 5, 6, GREATEST};
        for (int k : ks) {
            boolean counts = k >= 3 && k < 6;
            Check.due("parted at " + k, x.parted(0, 0, k), counts ? 1 : 2);
            Check.due("came at " + k, x.came(1, 50, 0, 0, k), counts ? 96 : 97);
            Check.due("cracked at " + k, x.cracked(k), counts ? -1 : 0);
            Check.due("its row at " + k, x.about(10), counts ? 0 : 1);
            Check.due("first at " + k, x.first(k), counts ? 2 : -1);
        }
    }

    private static void untoldAtTheSameTime() {
        ChordHerds x = Check.told(ONE, 1);
        x.evening(0, 2);
        Check.due("it can't be", x.cracked(0), -1);
        x.untell(0);
        Check.due("UNTOLD at once it never counts", x.cracked(0), 0);
        Check.due("nor is it FIRST", x.first(0), -1);
        Check.due("nor at the least", x.first(LEAST), -1);
    }

    /** 10 LOUD at PLACE 50, in a SOUND from least to most. */
    private static void soundFromLeastToMost() {
        int[][] want = {{10, 10, 1}, {9, 10, 1}, {10, 11, 1}, {11, 12, 0}, {0, 999, 1}, {11, 999, 0}, {999, 999, 0}};
        for (int[] w : want) {
            ChordHerds x = Check.told(ONE, 1);
            x.sound(0, 0, 0, w[0], w[1]);
            boolean silent = w[0] == 0;
            Check.due("sets of " + w[0] + " to " + w[1], x.sets(0, 0, 0, 0), silent ? 2 : w[2]);
            Check.due("its SURE ones", x.sets(0, 0, 1, 0), silent ? 0 : w[2]);
        }
        ChordHerds two = Check.told(ONE, 1);
        two.sound(0, 0, 0, 3, 9);
        two.sound(0, 0, 0, 8, 20);
        Check.due("both are so: 8 and 9, on both sides", two.sets(0, 0, 3, 0), 4);
        Check.due("the least PLACE", two.sets(0, 0, 4, 0), 48);
        Check.due("the greatest PLACE", two.sets(0, 0, 5, 0), 52);
        two.sound(0, 0, 0, 0, 7);
        Check.due("no SOUND is so with these", two.sets(0, 0, 0, 0), 0);
    }

    private static void soundsOfOtherQuarters() {
        ChordHerds x = Check.told(ONE + "stranger s bell 0 loud 5;", 2);
        x.sound(0, 0, 0, 999, 999);
        x.sound(94, 0, 0, 999, 999);
        x.spring(0, 50, 1, 60, 95);
        for (int quarter = 0; quarter < 96; quarter++) {
            boolean asked = quarter == 0 || quarter == 94;
            Check.due("sets of QUARTER " + quarter, x.sets(quarter, 0, 0, 0), asked ? 0 : 4);
        }
        Check.due("parted by another QUARTER", x.parted(0, 0, 0), 2);
        Check.due("came goes by all QUARTERS", x.came(1, 50, 0, 0, 0), 0);
    }

    private static void notesBelowZeroAndAbove999() {
        ChordHerds x = Check.told(ONE, 1);
        x.walk(50, 0);
        x.note(1, 0, 0, 0);
        Check.due("just 10", x.sets(1, 0, 3, 0), 1);
        x.note(2, 0, 0, 9);
        Check.due("from 1 on", x.sets(2, 0, 3, 0), 19);
        Check.due("so it rings for sure", x.sets(2, 0, 1, 0), 1);
        x.note(3, 0, 0, 10);
        Check.due("from 0 on", x.sets(3, 0, 3, 0), 100);
        x.note(4, 0, 0, 11);
        Check.due("not below 0", x.sets(4, 0, 0, 0), 2);
        x.note(5, 0, 1, 0);
        Check.due("nothing heard of a TONE: 0 to 0", x.sets(5, 0, 0, 0), 2);
        x.comes(0, false);
        x.note(6, 0, 0, 0);
        Check.due("nobody is THERE", x.sets(6, 0, 2, 0), 0);
        Check.due("he may be too far to be heard", x.sets(6, 0, 0, 0), 2);
        StringBuilder loud = new StringBuilder("herd h;ear e at 0;");
        for (char name = 'a'; name < 'j'; name++) {
            loud.append("beast ").append(name).append(" of h bell 0 loud 99;");
        }
        ChordHerds y = Check.told(loud + "stranger s bell 0 loud 98;stranger t bell 0 loud 11;", 11);
        y.comes(9, true);
        Check.due("989 in all", y.hear(0, 0), 989);
        Check.due("up to 999", y.note(0, 0, 0, 10), 0);
        Check.due("up to 1000", y.note(0, 0, 0, 11), -1);
        y.comes(10, true);
        Check.due("1000 in all", y.hear(0, 0), 1000);
        Check.due("no SOUND of 1000", y.note(0, 0, 0, 0), -1);
        Check.due("nor a lower one", y.note(0, 0, 0, 99), -1);
        Check.due("ENTRIES", y.about(7), 1);
    }

    private static void placesAtTheEnds() {
        ChordHerds x = Check.told("herd h;beast a of h bell 0 loud 10;ear e at 0;ear f at 99;", 1);
        x.sound(0, 0, 0, 10, 10);
        x.sound(1, 1, 0, 10, 10);
        x.sound(2, 0, 0, 9, 10);
        x.sound(3, 1, 0, 1, 10);
        x.sound(4, 0, 0, 0, 0);
        x.sound(5, 0, 0, 0, 0);
        x.sound(5, 1, 0, 1, 1);
        int[][] want = {{1, 0, 0}, {1, 99, 99}, {2, 0, 1}, {10, 90, 99}, {100, 0, 99}, {1, 90, 90}};
        for (int quarter = 0; quarter < want.length; quarter++) {
            for (int i = 0; i < 3; i++) {
                Check.due("QUARTER " + quarter + " what " + (3 + i), x.sets(quarter, 0, 3 + i, 0), want[quarter][i]);
            }
        }
        Check.due("in WIND 1 never 10", x.sets(0, 1, 3, 0), 0);
        Check.due("no least PLACE", x.sets(0, 1, 4, 0), -1);
        Check.due("no greatest PLACE", x.sets(0, 1, 5, 0), -1);
        Check.due("in WIND 1 from 91 on", x.sets(3, 1, 4, 0), 91);
        Check.due("in WIND 9 at 99 alone", x.sets(3, 9, 3, 0), 1);
        Check.due("in WIND 10 nowhere", x.sets(3, 10, 3, 0), 0);
    }

    private static void onePlaceForAllEars() {
        ChordHerds x = Check.told(ONE, 1);
        x.sound(0, 0, 0, 10, 10);
        Check.due("at 50", x.sets(0, 0, 0, 0), 1);
        x.sound(0, 1, 0, 10, 10);
        Check.due("not at 50 and 60 at once", x.sets(0, 0, 0, 0), 0);
        x.sound(1, 0, 0, 5, 5);
        x.sound(1, 1, 0, 5, 5);
        Check.due("at 55 both are 5", x.sets(1, 0, 4, 0), 55);
        Check.due("there alone", x.sets(1, 0, 3, 0), 1);
    }

    /** Many sets are so at the first PLACES already, some of those like them only farther on. */
    private static void setsFoundAtLaterPlaces() {
        String near = "herd h;beast a of h bell 0 loud 10;ear e at 5;";
        String quiet = "herd h;beast a of h bell 0 loud 99;beast b of h bell 0 loud 99;ear e at 0;";
        for (char name = 'p'; name <= 't'; name++) {
            near += "beast " + name + " of h bell 0 loud 50;";
            quiet += "beast " + name + " of h bell 0 loud 1;";
        }
        ChordHerds x = Check.told(near, 6);
        x.sound(0, 0, 0, 10, 999);
        Check.due("a alone is 10 at 5, none never", x.sets(0, 0, 0, 0), 63);
        Check.due("all farther than that", x.sets(0, 1, 0, 0), 62);
        ChordHerds y = Check.told(quiet, 7);
        y.sound(0, 0, 0, 0, 50);
        Check.due("a and b together from 74 on", y.sets(0, 0, 0, 0), 128);
        Check.due("some set is so anywhere", y.sets(0, 0, 3, 0), 100);
        y.sound(0, 0, 0, 49, 50);
        Check.due("a or b at 49, with or without the others; both at 74", y.sets(0, 0, 0, 0), 96);
        Check.due("at 49, 50 and 74", y.sets(0, 0, 3, 0), 3);
    }

    private static void sureAndQuiet() {
        ChordHerds x = Check.told("herd h;beast a of h bell 0 loud 10;stranger s bell 0 loud 20;beast b of h bell 1 loud 5;"
            + "ear e at 0;", 3);
        Check.due("without SOUNDS nobody is SURE", x.sets(0, 0, 1, 0), 0);
        Check.due("nor QUIET", x.sets(0, 0, 2, 0), 0);
        x.sound(0, 0, 0, 30, 30);
        Check.due("a and s", x.sets(0, 0, 1, 0), 3);
        Check.due("b may ring or not", x.sets(0, 0, 2, 0), 0);
        Check.due("two sets", x.sets(0, 0, 0, 0), 2);
        x.sound(1, 0, 0, 20, 20);
        Check.due("s alone at 0, or both at 5", x.sets(1, 0, 0, 0), 4);
        Check.due("s is SURE", x.sets(1, 0, 1, 0), 2);
        x.sound(1, 0, 1, 5, 5);
        Check.due("b is heard at 0 alone", x.sets(1, 0, 0, 0), 1);
        Check.due("s and b are SURE", x.sets(1, 0, 1, 0), 6);
        Check.due("a is QUIET", x.sets(1, 0, 2, 0), 1);
        x.sound(1, 0, 1, 6, 6);
        Check.due("no set", x.sets(1, 0, 0, 0), 0);
        Check.due("0 without SETS", x.sets(1, 0, 1, 0), 0);
        Check.due("0 without SETS", x.sets(1, 0, 2, 0), 0);
        x.sound(2, 0, 0, 0, 0);
        x.sound(2, 0, 1, 5, 5);
        Check.due("at 0 just b", x.sets(2, 0, 0, 0), 1);
        Check.due("a and s are QUIET", x.sets(2, 0, 2, 0), 3);
    }

    private static void setsOfNothing() {
        String[] texts = {"", "herd h;", "ear e at 0;", "herd h;ear e at 0;ear f at 99;"};
        for (String text : texts) {
            ChordHerds x = Check.told(text, 0);
            int[] want = {1, 0, 0, 100, 0, 99};
            for (int what = 0; what < 6; what++) {
                Check.due("the set of none, what " + what, x.sets(95, 20, what, 0), want[what]);
            }
        }
        ChordHerds y = Check.told("ear e at 0;", 0);
        y.sound(0, 0, 11, 0, 999);
        Check.due("none is 0 LOUD", y.sets(0, 0, 0, 0), 1);
        y.sound(0, 0, 11, 1, 999);
        Check.due("not 1", y.sets(0, 0, 0, 0), 0);
        ChordHerds full = Check.told(States.fullText(), 11);
        Check.due("all sets of 11", full.sets(0, 0, 0, 0), 2048);
        full.sound(0, 0, 11, 99, 99);
        Check.due("those with the first STRANGER", full.sets(0, 0, 0, 0), 1024);
        Check.due("he is SURE", full.sets(0, 0, 1, 0), 1 << 9);
    }

    private static void partedByThisAloneAndThatAlone() {
        ChordHerds x = Check.told("herd h;beast a of h bell 0 loud 10;stranger s bell 0 loud 10;beast b of h bell 0 loud 10;"
            + "ear e at 0;ear f at 0;ear g at 0;", 3);
        x.spring(0, 0, 1, 5, 0);
        Check.due("any set of BEASTS", x.parted(0, 0, 0), 4);
        x.sound(0, 2, 0, 500, 500);
        Check.due("a third EAR says nothing", x.parted(0, 0, 0), 4);
        x.sound(0, 0, 0, 10, 10);
        Check.due("one here, one there", x.parted(0, 0, 0), 2);
        Check.due("none SURE here", x.parted(0, 1, 0), 0);
        Check.due("none SURE there", x.parted(0, 2, 0), 0);
        x.sound(0, 1, 0, 5, 5);
        Check.due("5 there, by its own PLACE", x.parted(0, 0, 0), 2);
        Check.due("not in WIND 1", x.parted(1, 0, 0), 0);
        Check.due("no SURE ones then", x.parted(1, 1, 0), 0);
        Check.due("nor there", x.parted(1, 2, 0), 0);
        Check.due("no MIXED", x.parted(1, 3, 0), -1);
        Check.due("nor its set", x.parted(1, 4, 0), -1);
        x.spring(1, 5, 0, 0, 0);
        Check.due("the other way about", x.parted(0, 0, 0), 2);
        x.spring(1, 0, 0, 5, 0);
        Check.due("not by the other's PLACE", x.parted(0, 0, 0), 0);
        x.spring(2, 0, 1, 5, 0);
        Check.due("by the third EAR: 500 can't be", x.parted(0, 0, 0), 0);
        ChordHerds none = Check.told("ear e at 0;ear f at 99;", 0);
        none.spring(0, 0, 1, 99, 0);
        int[] want = {1, 0, 0, 0, 0};
        for (int what = 0; what < 5; what++) {
            Check.due("no BEASTS, what " + what, none.parted(20, what, 0), want[what]);
        }
    }

    private static void mixedAndItsLeastSet() {
        ChordHerds x = Check.told("herd h;herd g;stranger s bell 5 loud 9;beast a of h bell 0 loud 10;beast b of h bell 0 loud 10;"
            + "beast c of h bell 0 loud 10;beast d of g bell 0 loud 10;ear e at 0;ear f at 0;", 5);
        x.spring(0, 0, 1, 0, 0);
        int[][] want = {{1, 0, 0}, {4, 0, 16}, {6, 1, 6}, {4, 0, 14}, {1, 0, 30}};
        for (int here = 0; here <= 4; here++) {
            x.sound(0, 0, 0, here * 10, here * 10);
            Check.due(here + " here", x.parted(0, 0, 0), want[here][0]);
            Check.due("MIXED", x.parted(0, 3, 0), want[here][1]);
            Check.due("its set", x.parted(0, 4, 0), want[here][2]);
            x.untell(here);
        }
        Check.due("all", x.parted(0, 0, 0), 16);
        Check.due("all whole: the least is none here", x.parted(0, 4, 0), 0);
        x.sound(0, 0, 0, 0, 0);
        Check.due("all SURE there", x.parted(0, 2, 0), 30);
        Check.due("none SURE here", x.parted(0, 1, 0), 0);
        x.untell(5);
        x.sound(0, 1, 0, 0, 0);
        Check.due("all SURE here", x.parted(0, 1, 0), 30);
        Check.due("none SURE there", x.parted(0, 2, 0), 0);
    }

    private static void springStaysAndGoes() {
        ChordHerds x = Check.told(ONE, 1);
        Check.due("none at first", x.parted(0, 0, 0), -2);
        x.spring(0, 50, 1, 60, 0);
        Check.due("told", x.parted(0, 0, 0), 2);
        x.image(0);
        x.back(0);
        Check.due("an image has nothing to do with it", x.parted(0, 0, 0), 2);
        Check.tape(x, "herd");
        x.valley();
        Check.due("a FAULT leaves it", x.parted(0, 0, 0), 2);
        Check.tape(x, ONE);
        x.valley();
        Check.due("none behind another VALLEY", x.parted(0, 0, 0), -2);
        Check.due("for no what", x.parted(0, 4, 0), -2);
    }

    /** BEASTS are 10 LOUD, with him 15. */
    private static void cameFromTheFirstToNotAtAll() {
        int[][] want = {{0, 10, 96, 1, 96}, {0, 15, 1, 0, 0}, {1, 15, 2, 0, 1}, {94, 15, 95, 0, 94}, {95, 15, 96, 0, 95},
            {95, 10, 1, 96, 96}, {94, 10, 2, 95, 96}, {40, 10, 56, 41, 96}, {40, 15, 41, 0, 40}, {40, 11, 0, -1, -1}};
        for (int[] w : want) {
            ChordHerds x = Check.told(ONE + "stranger s bell 0 loud 5;", 2);
            x.sound(w[0], 0, 0, w[1], w[1]);
            for (int what = 0; what < 3; what++) {
                Check.due(w[1] + " in QUARTER " + w[0] + ", what " + what, x.came(1, 50, 0, what, 0), w[2 + what]);
            }
        }
        ChordHerds y = Check.told(ONE + "stranger s bell 0 loud 5;", 2);
        y.sound(7, 0, 0, 10, 10);
        y.sound(8, 0, 0, 15, 15);
        Check.due("in 8 for sure", y.came(1, 50, 0, 0, 0), 1);
        Check.due("the first", y.came(1, 50, 0, 1, 0), 8);
        Check.due("the last", y.came(1, 50, 0, 2, 0), 8);
        y.sound(6, 0, 0, 15, 15);
        Check.due("he doesn't go again", y.came(1, 50, 0, 0, 0), 0);
        ChordHerds both = Check.told(ONE + "stranger s bell 0 loud 5;", 2);
        both.sound(7, 0, 0, 10, 15);
        Check.due("either way", both.came(1, 50, 0, 0, 0), 97);
        both.sound(7, 0, 0, 11, 14);
        Check.due("neither way", both.came(1, 50, 0, 0, 0), 0);
    }

    private static void otherStrangersNever() {
        ChordHerds x = Check.told(ONE + "stranger s bell 0 loud 5;stranger t bell 0 loud 7;", 3);
        x.comes(2, true);
        x.stand(0, true);
        x.sound(30, 0, 0, 10, 10);
        Check.due("what is in earnest has nothing to do with it", x.came(1, 50, 0, 1, 0), 31);
        x.sound(40, 0, 0, 17, 17);
        Check.due("not the first STRANGER", x.came(1, 50, 0, 0, 0), 0);
        Check.due("the other one", x.came(2, 50, 0, 0, 0), 10);
        x.sound(41, 0, 0, 22, 22);
        Check.due("never both", x.came(2, 50, 0, 0, 0), 0);
        ChordHerds none = Check.told("stranger s bell 3 loud 5;ear e at 0;", 1);
        Check.due("without BEASTS and SOUNDS", none.came(0, 0, 0, 0, 0), 97);
        none.sound(3, 0, 3, 5, 5);
        Check.due("he alone", none.came(0, 0, 0, 0, 0), 4);
        none.sound(2, 0, 4, 0, 0);
        Check.due("nobody has that TONE", none.came(0, 0, 0, 0, 0), 4);
        none.sound(2, 0, 4, 1, 1);
        Check.due("so that can't be", none.came(0, 0, 0, 0, 0), 0);
    }
}
