/** ==== 3 of the document, its second half: the edges of CRACKED, FIRST, DEALT and NEW, and of the row that lies there. */
public final class RowEdgesTest {
    private static final int LEAST = Integer.MIN_VALUE;
    private static final int GREATEST = Integer.MAX_VALUE;

    public static void main(String[] args) {
        justTheseTones();
        creepsAtTheirEnds();
        yearsOfEvenings();
        leastCreepAndTheFirstRow();
        firstByItsNumber();
        firstOnlyByThoseAhead();
        eveningsGoByBeastsAsTold();
        rowsComeAndGo();
        spentWithMoreThan8();
        dealtForNobodyAndOne();
        dealtForOneMissing();
        dealtForTwoMissing();
        newWithoutNeighbours();
        newFarthestRoundTheTwelve();
        newAndThoseBeside();
        newThatIsKnown();
        Check.finish("RowEdgesTest");
    }

    /** BEASTS with these TONES, all of other loudness, and a STRANGER between. */
    private static ChordHerds bells(int... tones) {
        StringBuilder text = new StringBuilder("herd h;");
        for (int i = 0; i < tones.length; i++) {
            text.append(i == 1 ? "stranger z bell 7 loud 50;" : "");
            text.append("beast ").append((char) ('a' + i)).append(" of h bell ").append(tones[i]);
            text.append(" loud ").append(i + 1).append(';');
        }
        return Check.told(text.toString(), tones.length > 1 ? tones.length + 1 : tones.length);
    }

    private static ChordHerds louds(int... louds) {
        StringBuilder text = new StringBuilder("herd h;stranger z bell 7 loud 50;");
        for (int i = 0; i < louds.length; i++) {
            text.append("beast ").append((char) ('a' + i)).append(" of h bell 0 loud ").append(louds[i]).append(';');
        }
        return Check.told(text.toString(), louds.length + 1);
    }

    private static void row(String told, ChordHerds x, int... want) {
        Check.due(told + ", how many", x.about(10), want.length);
        for (int i = 0; i < want.length; i++) {
            Check.due(told + ", lies(" + i + ")", x.lies(i), want[i]);
        }
        Check.due(told + ", behind the last", x.lies(want.length), -1);
        Check.due(told + ", ahead of the first", x.lies(-1), -1);
    }

    private static void justTheseTones() {
        int[][] want = {{0b11, 0}, {0b1, -1}, {0b10, -1}, {0b111, -1}, {0, -1}, {4095, -1}};
        for (int[] w : want) {
            ChordHerds x = bells(0, 1);
            x.evening(0, w[0]);
            Check.due("CRACKED by " + w[0], x.cracked(0), w[1]);
            Check.due("FIRST by " + w[0], x.first(0), w[1] == 0 ? -1 : 0);
        }
        ChordHerds none = bells();
        none.evening(0, 0);
        Check.due("nobody rings: no TONES", none.cracked(0), 0);
        row("of nobody", none);
        none.evening(20, 0);
        Check.due("in any YEAR", none.first(0), -1);
        none.evening(20, 1 << 11);
        Check.due("but no TONE", none.cracked(0), -1);
        Check.due("that is FIRST", none.first(0), 2);
    }

    private static void creepsAtTheirEnds() {
        int[][] want = {{0, 0}, {11, 1}, {10, 2}, {9, -1}, {1, -1}};
        for (int[] w : want) {
            ChordHerds x = bells(0);
            x.evening(1, 1 << w[0]);
            Check.due("TONE " + w[0] + " a YEAR on", x.cracked(0), w[1]);
            Check.due("FIRST", x.first(0), w[1] < 0 ? 0 : -1);
            if (w[1] < 0) {
                row("that can't be", x);
            } else {
                row("by a CREEP", x, w[1]);
            }
        }
    }

    private static void yearsOfEvenings() {
        ChordHerds x = bells(0);
        x.evening(0, 1);
        Check.due("in YEAR 0 any CREEP", x.cracked(0), 0);
        x.evening(12, 1);
        Check.due("in YEAR 12 any CREEP", x.cracked(0), 0);
        x.evening(6, 1);
        Check.due("in YEAR 6 0 or 2", x.cracked(0), 0);
        x.evening(18, 1);
        Check.due("in YEAR 18 likewise", x.cracked(0), 0);
        x.evening(20, 1 << 8);
        Check.due("0 - 2 * 20 modulo 12", x.cracked(0), 2);
        row("by 2", x, 2);
        Check.due("all are so", x.first(0), -1);
        ChordHerds y = bells(11);
        y.evening(20, 1 << 3);
        Check.due("11 - 20 modulo 12", y.cracked(0), 1);
    }

    private static void leastCreepAndTheFirstRow() {
        ChordHerds x = bells(0, 0, 0);
        x.evening(1, 1 | 1 << 11);
        Check.due("one by 1", x.cracked(0), 1);
        row("the first row", x, 0, 0, 1);
        ChordHerds y = bells(0, 0, 0);
        y.evening(1, 1 << 11 | 1 << 10);
        Check.due("two by 1, one by 2", y.cracked(0), 4);
        row("the first row", y, 1, 1, 2);
        ChordHerds z = bells(0, 1, 2);
        z.evening(1, 1 << 0);
        Check.due("all come together", z.cracked(0), 3);
        row("by 0, 1, 2", z, 0, 1, 2);
        // least together comes ahead of the first row: (0, 2, 2) is ahead of (1, 0, 0), but more
        ChordHerds least = bells(1, 2, 2);
        least.evening(1, 0b101);
        Check.due("by 1 alone", least.cracked(0), 1);
        row("the least", least, 1, 0, 0);
        ChordHerds all = bells(2, 2, 2, 2, 2, 2, 2, 2);
        all.evening(1, 1);
        Check.due("the most together", all.cracked(0), 16);
        row("all by 2", all, 2, 2, 2, 2, 2, 2, 2, 2);
    }

    private static void firstByItsNumber() {
        ChordHerds x = Check.told("herd h;beast a of h bell 0 loud 1;ear e at 0;", 1);
        Check.due("without ENTRIES", x.first(0), -1);
        x.sound(0, 0, 0, 999, 999);
        Check.due("a SOUND is no EVENING", x.first(0), -1);
        x.evening(0, 2);
        Check.due("by its number as an ENTRY", x.first(0), 1);
        x.untell(1);
        Check.due("UNTOLD", x.first(0), -1);
        for (int i = 2; i < 39; i++) {
            Check.due("one that is so", x.evening(0, 1), i);
        }
        Check.due("the last of 40", x.evening(0, 2), 39);
        Check.due("is FIRST", x.first(0), 39);
        Check.due("and CRACKED can't be", x.cracked(0), -1);
        x.untell(39);
        Check.due("UNTOLD, too", x.first(0), -1);
        Check.due("then it can", x.cracked(0), 0);
    }

    private static void firstOnlyByThoseAhead() {
        ChordHerds x = bells(0);
        x.evening(1, 1);
        x.evening(1, 1 << 11);
        Check.due("the later of two that can't be together", x.first(0), 1);
        x.evening(1, 2);
        Check.due("not one behind it", x.first(0), 1);
        x.later(1);
        x.untell(1);
        Check.due("without it the next", x.first(1), 2);
        x.later(1);
        x.untell(0);
        Check.due("that can't be alone, either", x.first(2), 2);
        x.untell(2);
        Check.due("none", x.first(2), -1);
        Check.due("as known at 1", x.first(1), 2);
        Check.due("as known at 0", x.first(0), 1);
        Check.due("as known ahead of all", x.first(-1), -1);
        Check.due("at the least", x.first(LEAST), -1);
        Check.due("at the greatest", x.first(GREATEST), -1);
    }

    /** Neither what is in earnest nor a STRANGER has to do with EVENINGS, nor have they with what is in earnest. */
    private static void eveningsGoByBeastsAsTold() {
        ChordHerds x = bells(0, 1);
        x.crack(0, 2);
        x.years(5);
        x.comes(2, false);
        x.stand(0, true);
        x.comes(1, true);
        x.evening(0, 0b11);
        Check.due("all BEASTS ring, as told", x.cracked(0), 0);
        Check.due("all is so", x.first(0), -1);
        x.evening(1, 1 | 1 << 11);
        Check.due("both by 1, or the second by 2, which is first", x.cracked(0), 2);
        row("not the CREEPS in earnest", x, 0, 2);
        Check.due("these stay", x.bell(0, 3), 2);
        Check.due("and none else has one", x.bell(2, 3), 0);
        Check.due("the YEAR stays", x.about(6), 5);
    }

    private static void rowsComeAndGo() {
        ChordHerds x = bells(0, 1, 2);
        row("at first", x);
        x.evening(1, 0b111);
        x.later(1);
        x.evening(0, 4095);
        Check.due("CRACKED", x.cracked(0), 0);
        row("behind it", x, 0, 0, 0);
        Check.due("dealt(1)", x.dealt(1), 1);
        row("the other's", x, 0, 0, 0);
        Check.due("dealt(2)", x.dealt(2), 2);
        row("the next", x, 0, 0, 1);
        x.first(1);
        x.fresh(5, 0);
        x.image(0);
        x.back(0);
        x.lies(GREATEST);
        x.sets(0, 0, 0, 0);
        row("none of these touches it", x, 0, 0, 1);
        Check.due("CRACKED that can't be", x.cracked(1), -1);
        row("behind NONE", x);
        x.dealt(2);
        Check.due("dealt(0)", x.dealt(0), -1);
        row("behind NONE", x);
        x.dealt(2);
        Check.due("dealt(3)", x.dealt(3), -1);
        row("behind NONE", x);
        x.dealt(2);
        Check.tape(x, "herd");
        x.valley();
        row("behind a FAULT", x, 0, 0, 1);
        Check.tape(x, "herd h;beast a of h bell 0 loud 1;");
        x.valley();
        row("behind another VALLEY", x);
    }

    private static void spentWithMoreThan8() {
        ChordHerds eight = bells(0, 1, 2, 3, 4, 5, 6, 7);
        Check.due("CRACKED of 8", eight.cracked(0), 0);
        row("of 8", eight, 0, 0, 0, 0, 0, 0, 0, 0);
        Check.due("FIRST of 8", eight.first(0), -1);
        Check.due("DEALT of 8", eight.dealt(1), 1);
        ChordHerds nine = bells(0, 1, 2, 3, 4, 5, 6, 7, 8);
        Check.due("CRACKED of 9", nine.cracked(0), -2);
        row("of 9", nine);
        Check.due("FIRST of 9", nine.first(0), -2);
        nine.evening(0, 0);
        Check.due("FIRST of 9 with one that can't be", nine.first(0), -2);
        Check.due("CRACKED of 9 with one that can't be", nine.cracked(0), -2);
        Check.due("DEALT of 9 for 1", nine.dealt(1), -2);
        Check.due("DEALT of 9 for 2", nine.dealt(2), -2);
        row("of 9", nine);
        ChordHerds ten = Check.told("stranger s bell 0 loud 1;stranger t bell 0 loud 1;herd h;"
            + "beast a of h bell 0 loud 1;beast b of h bell 0 loud 1;beast c of h bell 0 loud 1;beast d of h bell 0 loud 1;"
            + "beast e of h bell 0 loud 1;beast f of h bell 0 loud 1;beast g of h bell 0 loud 1;beast i of h bell 0 loud 1;", 10);
        ten.evening(0, 1);
        Check.due("STRANGERS don't count for it", ten.cracked(0), 0);
        Check.due("nor for FIRST", ten.first(0), -1);
        Check.due("nor for DEALT", ten.dealt(2), 8);
        row("of 8 alike", ten, 0, 1, 2, 3, 4, 5, 6, 7);
    }

    private static void dealtForNobodyAndOne() {
        for (int m = 1; m <= 2; m++) {
            ChordHerds none = louds();
            Check.due("no BEASTS", none.dealt(m), 0);
            row("no BEASTS", none);
            ChordHerds one = louds(99);
            Check.due("one BEAST", one.dealt(m), 1);
            row("one BEAST", one, 0);
            ChordHerds unlike = louds(1, 99);
            Check.due("two unlike", unlike.dealt(m), 1);
            row("two unlike", unlike, 0, 0);
            ChordHerds alike = louds(1, 1);
            Check.due("two alike", alike.dealt(m), 2);
            row("two alike", alike, 0, 1);
        }
    }

    private static void dealt(int m, int[] louds, int want, int... row) {
        ChordHerds x = louds(louds);
        Check.due("dealt(" + m + ")", x.dealt(m), want);
        row("dealt(" + m + ")", x, row);
    }

    private static void dealtForOneMissing() {
        dealt(1, new int[] {1, 2, 3, 4, 5, 6, 7, 8}, 1, 0, 0, 0, 0, 0, 0, 0, 0);
        dealt(1, new int[] {1, 2, 3, 4, 5, 6, 7, 1}, 2, 0, 0, 0, 0, 0, 0, 0, 1);
        dealt(1, new int[] {5, 5, 5, 6, 6, 7}, 3, 0, 1, 2, 0, 1, 0);
        dealt(1, new int[] {99, 99, 99, 99, 99, 99, 99, 99}, 8, 0, 1, 2, 3, 4, 5, 6, 7);
    }

    /** One and two, two and two; what both sets have in common takes the same from both. */
    private static void dealtForTwoMissing() {
        dealt(2, new int[] {1, 2, 3}, 2, 0, 0, 1);
        dealt(2, new int[] {1, 2, 4}, 1, 0, 0, 0);
        dealt(2, new int[] {3, 2, 1}, 2, 0, 0, 1);
        dealt(2, new int[] {10, 20, 31, 41}, 2, 0, 0, 0, 1);
        dealt(2, new int[] {10, 20, 31, 42}, 1, 0, 0, 0, 0);
        dealt(2, new int[] {20, 41, 31, 10}, 2, 0, 0, 0, 1);
        dealt(2, new int[] {7, 7, 7}, 3, 0, 1, 2);
        dealt(2, new int[] {7, 14, 7}, 2, 0, 0, 1);
        dealt(2, new int[] {99, 98, 1}, 2, 0, 0, 1);
        dealt(2, new int[] {99, 98, 2}, 1, 0, 0, 0);
        // 7 could be with 1, 2 and 4, but then 8 could be nowhere
        dealt(2, new int[] {1, 2, 3, 4, 5, 6, 7, 8}, 2, 0, 0, 1, 0, 1, 1, 1, 0);
    }

    private static void newWithoutNeighbours() {
        ChordHerds x = bells(0, 5);
        Check.due("all are 12 far: the least", x.fresh(50, 0), 0);
        Check.due("that is known", x.fresh(1, 0), 1);
        Check.due("a STRANGER's loudness", Check.told("stranger s bell 0 loud 9;", 1).fresh(9, 0), 0);
        Check.due("of nothing", new ChordHerds().fresh(1, 0), 0);
        Check.due("of nothing, loud", new ChordHerds().fresh(99, 0), 0);
        Check.due("of nothing, too loud", new ChordHerds().fresh(100, 0), -2);
        Check.due("of nothing, not loud", new ChordHerds().fresh(0, 0), -2);
    }

    private static void newFarthestRoundTheTwelve() {
        int[][] want = {{0, 6}, {1, 7}, {5, 11}, {6, 0}, {7, 1}, {11, 5}};
        for (int[] w : want) {
            Check.due("6 from " + w[0], bells(w[0]).fresh(50, 1), w[1]);
        }
        // BELL 1 is a STRANGER
        Check.due("3 from both, the least", bells(0, 6).fresh(50, 5), 3);
        Check.due("from 0 and 1: 6 is 5, 7 is 5", bells(0, 1).fresh(50, 5), 6);
        Check.due("from 11 and 0: 5 is 5, 6 is 5", bells(11, 0).fresh(50, 5), 5);
        Check.due("from 0 and 2: 7 is 5", bells(0, 2).fresh(50, 5), 7);
        Check.due("of one of these alone", bells(0, 2).fresh(50, 4), 8);
        Check.due("of all about: 1 far, the least", bells(0, 2, 4, 6, 8, 10).fresh(50, 125), 1);
        Check.due("of nine, next to one: 1 far", bells(0, 1, 2, 3, 4, 5, 6, 7, 8).fresh(50, 1021), 10);
    }

    private static void newAndThoseBeside() {
        String text = "herd h;beast a of h bell 0 loud 1;beast b of h bell 6 loud 2;beast c of h bell 3 loud 3;"
            + "beast d of h bell 9 loud 4;beside a b;beside b c;";
        ChordHerds x = Check.told(text, 4);
        Check.due("a, and b beside it", x.fresh(50, 1), 3);
        Check.due("b, and a and c beside it", x.fresh(50, 2), 9);
        Check.due("c, and b beside it, not a", x.fresh(50, 4), 10);
        Check.due("d alone", x.fresh(50, 8), 3);
        Check.due("c and d, and b: 0 is 3 from both", x.fresh(50, 12), 0);
        Check.due("none", x.fresh(50, 0), 0);
    }

    private static void newThatIsKnown() {
        ChordHerds x = Check.told("herd h;beast a of h bell 0 loud 5;beast b of h bell 6 loud 5;beast c of h bell 6 loud 6;", 3);
        Check.due("6 has one as loud: 5 is 5 far", x.fresh(5, 1), 5);
        Check.due("6 has one as loud", x.fresh(6, 1), 5);
        Check.due("as loud as none", x.fresh(7, 1), 6);
        ChordHerds alike = Check.told("herd h;beast a of h bell 3 loud 5;beast b of h bell 3 loud 5;", 2);
        Check.due("two alike are never known", alike.fresh(7, 0), -1);
        Check.due("by no neighbours", alike.fresh(7, 3), -1);
        Check.due("but first, what can't be", alike.fresh(7, 4), -2);
        Check.due("nor a loudness", alike.fresh(100, 0), -2);
        ChordHerds far = Check.told("herd h;stranger s bell 3 loud 5;beast a of h bell 3 loud 5;beast b of h bell 4 loud 5;", 3);
        Check.due("a STRANGER like one is not missed", far.fresh(5, 0), 0);
        ChordHerds nine = Check.told("herd h;beast a of h bell 0 loud 5;beast b of h bell 1 loud 5;beast c of h bell 2 loud 5;"
            + "beast d of h bell 3 loud 5;beast e of h bell 4 loud 5;beast f of h bell 5 loud 5;beast g of h bell 6 loud 5;"
            + "beast i of h bell 7 loud 5;beast j of h bell 11 loud 5;", 9);
        Check.due("a tenth: 8 is the least that none has", nine.fresh(5, 0), 8);
        Check.due("9 is the farthest of all", nine.fresh(5, 511), 9);
        Check.due("9 is the farthest, of another loudness, too", nine.fresh(6, 511), 9);
        Check.due("6 from 0, where one is as loud: 8 is 4 far", nine.fresh(5, 1), 8);
        Check.due("6 from 0, of another loudness", nine.fresh(6, 1), 6);
    }
}
