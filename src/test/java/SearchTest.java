/** Promises 19 to 27: what can have been, by what counts, and TONES dealt anew. */
public final class SearchTest {
    private static final int LEAST = Integer.MIN_VALUE;
    private static final int GREATEST = Integer.MAX_VALUE;
    /** BELL 1 is a STRANGER, so that BEASTS have other numbers alone than as BELLS. */
    private static final String TEXT = "herd h;herd g;"
        + "beast a of h bell 0 loud 10;stranger s bell 0 loud 7;beast b of h bell 0 loud 6;"
        + "beast c of g bell 4 loud 8;stranger t bell 4 loud 3;ear e at 0;ear f at 10;ear z at 50;";

    public static void main(String[] args) {
        setsOfOneSound();
        setsOfTwoEars();
        setsOneBehindAnother();
        setsWithoutSounds();
        setsThatCantBe();
        partedHerds();
        partedWrong();
        strangerCame();
        strangerCameWrong();
        crackedBells();
        firstEvening();
        fortyEveningsOfEight();
        dealtForOne();
        dealtForTwo();
        freshBells();
        spent();
        Check.finish("SearchTest");
    }

    private static void dueSets(ChordHerds x, int quarter, int wind, int... want) {
        for (int what = 0; what < 6; what++) {
            Check.due("sets(" + quarter + ", " + wind + ", " + what + ")", x.sets(quarter, wind, what, 0), want[what]);
        }
    }

    private static void setsOfOneSound() {
        ChordHerds x = Check.told(TEXT, 5);
        x.sound(3, 0, 0, 9, 9);
        // {a} at 1, {s, b} at 2, {a, b} at 4 (9 = 6 + 2 is 8, no), {a, s} at 4 (6 + 3)
        dueSets(x, 3, 0, 12, 0, 0, 3, 1, 4);
        dueSets(x, 3, 1, 12, 0, 0, 3, 0, 3);
        dueSets(x, 3, 20, 0, 0, 0, 0, -1, -1);
        dueSets(x, 4, 20, 32, 0, 0, 100, 0, 99);
        x.sound(3, 0, 4, 0, 0);
        // c is heard at each of these; t isn't at 4
        dueSets(x, 3, 0, 4, 0, 8, 3, 1, 4);
        x.sound(3, 0, 11, 0, 0);
        dueSets(x, 3, 0, 4, 0, 8, 3, 1, 4);
        x.sound(3, 0, 11, 1, 999);
        dueSets(x, 3, 0, 0, 0, 0, 0, -1, -1);
    }

    private static void setsOfTwoEars() {
        ChordHerds x = Check.told(TEXT, 5);
        x.sound(0, 0, 0, 6, 6);
        x.sound(0, 1, 0, 4, 4);
        // the one PLACE for both EARS: {a} at 4 is 6 here, 4 there
        dueSets(x, 0, 0, 4, 1, 6, 1, 4, 4);
        x.sound(0, 1, 4, 2, 999);
        // at 4 c is 2 loud at the second EAR, t is 0
        dueSets(x, 0, 0, 2, 9, 6, 1, 4, 4);
    }

    private static void setsOneBehindAnother() {
        ChordHerds x = Check.told("herd h;beast a of h bell 0 loud 3;beast b of h bell 0 loud 10;ear e at 0;", 2);
        x.sound(0, 0, 0, 10, 10);
        x.sound(1, 0, 0, 0, 20);
        x.sound(2, 0, 0, 13, 13);
        for (int i = 0; i < 3; i++) {
            dueSets(x, 0, 0, 1, 2, 1, 1, 0, 0);
            dueSets(x, 1, 0, 4, 0, 0, 100, 0, 99);
            dueSets(x, 2, 0, 1, 3, 0, 1, 0, 0);
            dueSets(x, 2, 1, 0, 0, 0, 0, -1, -1);
        }
    }

    private static void setsWithoutSounds() {
        ChordHerds x = Check.told(TEXT, 5);
        dueSets(x, 0, 0, 32, 0, 0, 100, 0, 99);
        x.evening(0, 0);
        dueSets(x, 0, 0, 32, 0, 0, 100, 0, 99);
        x.sound(0, 2, 0, 0, 0);
        dueSets(x, 0, 0, 32, 0, 0, 100, 0, 99);
        dueSets(Check.told("", 0), 0, 0, 1, 0, 0, 100, 0, 99);
        ChordHerds y = Check.told("ear e at 0;", 0);
        y.sound(0, 0, 0, 0, 5);
        dueSets(y, 0, 0, 1, 0, 0, 100, 0, 99);
        y.sound(0, 0, 0, 1, 5);
        dueSets(y, 0, 0, 0, 0, 0, 0, -1, -1);
    }

    private static void setsThatCantBe() {
        ChordHerds x = Check.told(TEXT, 5);
        int[][] wrong = {{-1, 0, 0}, {96, 0, 0}, {0, -1, 0}, {0, 21, 0}, {0, 0, -1}, {0, 0, 6}, {LEAST, 0, 0},
            {GREATEST, 0, 0}, {0, LEAST, 0}, {0, GREATEST, 0}, {0, 0, LEAST}, {0, 0, GREATEST}};
        for (int[] w : wrong) {
            Check.due("sets that can't be", x.sets(w[0], w[1], w[2], 0), -2);
        }
        Check.due("sets(95, 20, 0, 0)", x.sets(95, 20, 0, 0), 32);
    }

    private static void dueParted(ChordHerds x, int wind, int... want) {
        for (int what = 0; what < 5; what++) {
            Check.due("parted(" + wind + ", " + what + ")", x.parted(wind, what, 0), want[what]);
        }
    }

    private static void partedHerds() {
        ChordHerds x = Check.told(TEXT, 5);
        Check.due("spring", x.spring(0, 0, 1, 10, 7), true);
        // all eight sets; the herds whole: none here is the least set
        dueParted(x, 0, 8, 0, 0, 0, 0);
        x.sound(7, 0, 0, 10, 10);
        // a here, b there, c anywhere: one of h is not with the most
        dueParted(x, 0, 2, 1, 4, 1, 1);
        dueParted(x, 1, 0, 0, 0, -1, -1);
        x.sound(7, 2, 0, 500, 500);
        x.sound(6, 1, 4, 500, 500);
        dueParted(x, 0, 2, 1, 4, 1, 1);
        x.sound(7, 1, 4, 0, 0);
        dueParted(x, 0, 1, 9, 4, 1, 9);
        Check.due("spring the other way", x.spring(1, 10, 0, 0, 7), true);
        dueParted(x, 0, 1, 4, 9, 1, 4);
        Check.due("spring at other PLACES", x.spring(0, 1, 1, 10, 7), true);
        dueParted(x, 0, 0, 0, 0, -1, -1);
        Check.due("spring that can't be", x.spring(0, 0, 0, 0, 0), false);
        dueParted(x, 0, 0, 0, 0, -1, -1);
        ChordHerds y = Check.told("ear e at 0;ear f at 0;stranger s bell 0 loud 5;", 1);
        y.spring(0, 0, 1, 0, 0);
        dueParted(y, 0, 1, 0, 0, 0, 0);
        y.sound(0, 0, 0, 5, 5);
        dueParted(y, 0, 0, 0, 0, -1, -1);
    }

    private static void partedWrong() {
        ChordHerds x = Check.told(TEXT, 5);
        Check.due("nothing was told", x.parted(0, 0, 0), -2);
        int[][] wrong = {{-1, 0, 1, 0, 0}, {3, 0, 1, 0, 0}, {0, -1, 1, 0, 0}, {0, 100, 1, 0, 0}, {0, 0, -1, 0, 0},
            {0, 0, 3, 0, 0}, {0, 0, 1, -1, 0}, {0, 0, 1, 100, 0}, {0, 0, 1, 0, -1}, {0, 0, 1, 0, 96}, {1, 0, 1, 0, 0},
            {LEAST, 0, GREATEST, 0, 0}, {0, LEAST, 1, GREATEST, 0}, {0, 0, 1, 0, LEAST}, {0, 0, 1, 0, GREATEST}};
        for (int[] w : wrong) {
            Check.due("a spring that can't be", x.spring(w[0], w[1], w[2], w[3], w[4]), false);
        }
        Check.due("nothing was told still", x.parted(0, 0, 0), -2);
        Check.due("the greatest", x.spring(2, 99, 1, 99, 95), true);
        int[][] bad = {{-1, 0}, {21, 0}, {0, -1}, {0, 5}, {LEAST, 0}, {GREATEST, 0}, {0, LEAST}, {0, GREATEST}};
        for (int[] w : bad) {
            Check.due("parted that can't be", x.parted(w[0], w[1], 0), -2);
        }
        Check.due("parted(20, 0, 0)", x.parted(20, 0, 0), 8);
    }

    private static void dueCame(ChordHerds x, int stranger, int... want) {
        for (int what = 0; what < 3; what++) {
            Check.due("came(" + stranger + ", 0, 0, " + what + ")", x.came(stranger, 0, 0, what, 0), want[what]);
        }
    }

    private static void strangerCame() {
        ChordHerds x = Check.told(TEXT, 5);
        dueCame(x, 1, 97, 0, 96);
        x.sound(40, 0, 0, 16, 16);
        dueCame(x, 1, 56, 41, 96);
        dueCame(x, 4, 97, 0, 96);
        x.sound(95, 0, 0, 23, 23);
        dueCame(x, 1, 55, 41, 95);
        x.sound(60, 0, 0, 20, 30);
        dueCame(x, 1, 20, 41, 60);
        Check.due("at another PLACE", x.came(1, 1, 0, 0, 0), 0);
        Check.due("in a WIND", x.came(1, 0, 1, 1, 0), -1);
        x.sound(41, 0, 0, 23, 23);
        dueCame(x, 1, 1, 41, 41);
        x.sound(0, 0, 4, 0, 0);
        dueCame(x, 1, 0, -1, -1);
        dueCame(x, 4, 0, -1, -1);
        ChordHerds y = Check.told(TEXT, 5);
        y.sound(0, 0, 0, 23, 23);
        dueCame(y, 1, 1, 0, 0);
        ChordHerds z = Check.told(TEXT, 5);
        z.sound(95, 0, 0, 16, 16);
        dueCame(z, 1, 1, 96, 96);
    }

    private static void strangerCameWrong() {
        ChordHerds x = Check.told(TEXT, 5);
        int[][] wrong = {{0, 0, 0, 0}, {2, 0, 0, 0}, {-1, 0, 0, 0}, {5, 0, 0, 0}, {1, -1, 0, 0}, {1, 100, 0, 0},
            {1, 0, -1, 0}, {1, 0, 21, 0}, {1, 0, 0, -1}, {1, 0, 0, 3}, {LEAST, 0, 0, 0}, {GREATEST, 0, 0, 0},
            {1, LEAST, 0, 0}, {1, GREATEST, 0, 0}, {1, 0, LEAST, 0}, {1, 0, GREATEST, 0}, {1, 0, 0, LEAST},
            {1, 0, 0, GREATEST}};
        for (int[] w : wrong) {
            Check.due("came that can't be", x.came(w[0], w[1], w[2], w[3], 0), -2);
        }
        Check.due("came(1, 99, 20, 0, 0)", x.came(1, 99, 20, 0, 0), 97);
    }

    private static void dueRow(ChordHerds x, int... want) {
        Check.due("BEASTS of the row", x.about(10), want.length);
        for (int i = 0; i < want.length; i++) {
            Check.due("lies(" + i + ")", x.lies(i), want[i]);
        }
        int[] wrong = {-1, want.length, LEAST, GREATEST};
        for (int i : wrong) {
            Check.due("lies(" + i + ")", x.lies(i), -1);
        }
    }

    private static void crackedBells() {
        ChordHerds x = Check.told(TEXT, 5);
        dueRow(x);
        Check.due("cracked without EVENINGS", x.cracked(0), 0);
        dueRow(x, 0, 0, 0);
        x.evening(1, 1 | 1 << 11 | 1 << 4);
        Check.due("a or b crept", x.cracked(0), 1);
        dueRow(x, 0, 1, 0);
        x.evening(2, 1 | 1 << 10 | 1 << 4);
        Check.due("so in YEAR 2", x.cracked(0), 1);
        x.later(1);
        x.evening(4, 1 << 8 | 1 << 4);
        Check.due("all told", x.cracked(1), -1);
        dueRow(x);
        Check.due("as known before", x.cracked(0), 1);
        dueRow(x, 0, 1, 0);
        ChordHerds y = Check.told(TEXT, 5);
        y.evening(6, 1 | 1 << 4 | 1 << 10);
        Check.due("in YEAR 6 a CREEP of 1 goes half round, of 2 all", y.cracked(0), -1);
        y.untell(0);
        y.evening(4, 1 << 8 | 1);
        Check.due("c by 2 is ahead of b and c by 1", y.cracked(0), 2);
        dueRow(y, 0, 0, 2);
        ChordHerds z = new ChordHerds();
        z.evening(0, 0);
        Check.due("no TONES of no BEASTS", z.cracked(0), 0);
        z.evening(0, 1);
        Check.due("a TONE of no BEASTS", z.cracked(0), -1);
    }

    private static void firstEvening() {
        ChordHerds x = Check.told(TEXT, 5);
        Check.due("without EVENINGS", x.first(0), -1);
        x.evening(0, 1 | 1 << 4);
        x.sound(0, 0, 0, 999, 999);
        x.evening(1, 1 | 1 << 11 | 1 << 4);
        Check.due("all so far", x.first(0), -1);
        x.evening(2, 1 | 1 << 4);
        x.evening(0, 4095);
        Check.due("not with all ahead of it", x.first(0), 3);
        x.later(1);
        x.untell(2);
        Check.due("UNTOLD, they go together", x.first(1), 4);
        Check.due("as known before", x.first(0), 3);
        Check.due("as known never", x.first(LEAST), -1);
        x.cracked(-1);
        dueRow(x, 0, 0, 0);
        Check.due("first leaves the row", x.first(1), 4);
        dueRow(x, 0, 0, 0);
        ChordHerds up = herd(1);
        up.evening(1, 1 << 10);
        Check.due("by 2", up.first(0), -1);
        up.evening(0, 1);
        up.evening(2, 1 << 8);
        Check.due("by 2 in YEAR 2", up.first(0), -1);
        up.later(1);
        up.untell(0);
        up.untell(1);
        up.untell(2);
        up.evening(1, 2);
        up.evening(0, 1);
        up.evening(0, 1);
        Check.due("TONES never creep up", up.first(1), 3);
        Check.due("nor did they before", up.first(0), -1);
        Check.due("TONES never creep up, once more", up.first(1), 3);
        ChordHerds y = new ChordHerds();
        y.evening(3, 0);
        Check.due("no TONES of no BEASTS", y.first(0), -1);
        y.evening(3, 1);
        Check.due("a TONE of no BEASTS", y.first(0), 1);
    }

    private static void fortyEveningsOfEight() {
        ChordHerds x = herd(1, 2, 3, 4, 5, 6, 7, 8);
        for (int i = 0; i < 40; i++) {
            Check.due("evening", x.evening(i % 12 == 0 ? 0 : 12, 1), i);
        }
        Check.due("cracked by 40 EVENINGS", x.cracked(0), 0);
        dueRow(x, 0, 0, 0, 0, 0, 0, 0, 0);
        Check.due("first of 40 EVENINGS", x.first(0), -1);
        ChordHerds y = herd(1, 2, 3, 4, 5, 6, 7, 8);
        for (int i = 0; i < 39; i++) {
            y.evening(1 + i % 5, 1 << (10 - 2 * (i % 5)));
        }
        Check.due("all by 2", y.cracked(0), 16);
        dueRow(y, 2, 2, 2, 2, 2, 2, 2, 2);
        Check.due("first of 39 EVENINGS", y.first(0), -1);
        y.evening(20, 1);
        Check.due("the last can't be", y.first(0), 39);
        Check.due("cracked with it", y.cracked(0), -1);
        dueRow(y);
    }

    private static ChordHerds herd(int... louds) {
        StringBuilder text = new StringBuilder("herd h;stranger s bell 0 loud 1;");
        for (int i = 0; i < louds.length; i++) {
            text.append("beast ").append((char) ('a' + i)).append(" of h bell 0 loud ").append(louds[i]).append(';');
        }
        return Check.told(text.toString(), louds.length + 1);
    }

    private static void dueDealt(ChordHerds x, int m, int want, int... row) {
        Check.due("dealt(" + m + ")", x.dealt(m), want);
        dueRow(x, row);
    }

    private static void dealtForOne() {
        dueDealt(herd(), 1, 0);
        dueDealt(herd(5), 1, 1, 0);
        dueDealt(herd(5, 6, 5, 5, 6), 1, 3, 0, 0, 1, 2, 1);
        dueDealt(herd(9, 9, 9, 9, 9, 9, 9, 9), 1, 8, 0, 1, 2, 3, 4, 5, 6, 7);
        ChordHerds x = herd(1, 2);
        int[] wrong = {0, 3, -1, LEAST, GREATEST};
        for (int m : wrong) {
            dueDealt(x, 1, 1, 0, 0);
            dueDealt(x, m, -1);
        }
    }

    private static void dealtForTwo() {
        dueDealt(herd(), 2, 0);
        dueDealt(herd(1, 2, 4, 8, 16, 32, 64, 99), 2, 1, 0, 0, 0, 0, 0, 0, 0, 0);
        dueDealt(herd(1, 2, 3), 2, 2, 0, 0, 1);
        dueDealt(herd(3, 1, 2), 2, 2, 0, 0, 1);
        dueDealt(herd(10, 12, 14, 16), 2, 2, 0, 0, 0, 1);
        dueDealt(herd(5, 5), 2, 2, 0, 1);
        dueDealt(herd(9, 9, 9, 9, 9, 9, 9, 9), 2, 8, 0, 1, 2, 3, 4, 5, 6, 7);
        // 10 + 16 is 12 + 14, but as the last may go elsewhere first rows stay low
        dueDealt(herd(10, 16, 12, 14, 30), 2, 2, 0, 0, 0, 1, 0);
    }

    private static void freshBells() {
        String text = "herd h;beast a of h bell 0 loud 10;stranger s bell 6 loud 9;beast b of h bell 3 loud 6;"
            + "beast c of h bell 11 loud 8;beside c a;";
        ChordHerds x = Check.told(text, 4);
        Check.due("without neighbours all are 12 far", x.fresh(5, 0), 0);
        Check.due("known by its TONE then", x.fresh(10, 0), 1);
        Check.due("a, and c beside it: 5 is 5 from 0 and 6 from 11", x.fresh(5, 1), 5);
        Check.due("b alone", x.fresh(5, 4), 9);
        Check.due("c, and a beside it", x.fresh(5, 8), 5);
        Check.due("all", x.fresh(5, 13), 7);
        Check.due("a STRANGER is no neighbour", x.fresh(5, 2), -2);
        Check.due("nor one that isn't", x.fresh(5, 16), -2);
        int[] wrong = {-1, LEAST, GREATEST, 4096};
        for (int bits : wrong) {
            Check.due("neighbours that can't be", x.fresh(5, bits), -2);
        }
        int[] louds = {0, -1, 100, LEAST, GREATEST};
        for (int loud : louds) {
            Check.due("a loudness that can't be", x.fresh(loud, 0), -2);
        }
        Check.due("fresh(1, 0)", x.fresh(1, 0), 0);
        Check.due("fresh(99, 0)", x.fresh(99, 0), 0);
        x.crack(0, 1);
        x.years(1);
        Check.due("TONES as told", x.fresh(5, 1), 5);
        Check.due("of two alike neither is known", herd(4, 4).fresh(9, 0), -1);
        ChordHerds y = Check.told("herd h;beast a of h bell 0 loud 5;beast b of h bell 6 loud 5;", 2);
        Check.due("3 far", y.fresh(5, 3), 3);
        ChordHerds z = Check.told("herd h;beast a of h bell 0 loud 5;stranger s bell 0 loud 5;", 2);
        Check.due("a STRANGER like it does nothing", z.fresh(6, 0), 0);
    }

    private static void spent() {
        ChordHerds eight = herd(1, 2, 3, 4, 5, 6, 7, 8);
        Check.due("cracked with 8", eight.cracked(0), 0);
        dueRow(eight, 0, 0, 0, 0, 0, 0, 0, 0);
        Check.due("first with 8", eight.first(0), -1);
        Check.due("dealt(1) with 8", eight.dealt(1), 1);
        ChordHerds nine = herd(1, 2, 3, 4, 5, 6, 7, 8, 9);
        Check.due("cracked with 9", nine.cracked(0), -2);
        Check.due("first with 9", nine.first(0), -2);
        Check.due("dealt(1) with 9", nine.dealt(1), -2);
        Check.due("dealt(2) with 9", nine.dealt(2), -2);
        Check.due("dealt(3) with 9", nine.dealt(3), -1);
        dueRow(nine);
        Check.due("fresh with 9", nine.fresh(9, 0), 1);
        Check.due("sets with 9", nine.sets(0, 0, 0, 0), 1024);
    }
}
