/** Promises 6 to 13 and 28 to 30: all in earnest, its images, and what it is about. */
public final class EarnestTest {
    private static final String TEXT = "herd h;herd g;"
        + "beast a of h bell 0 loud 10;stranger s bell 11 loud 99;beast b of g bell 0 loud 6;"
        + "beast c of h bell 5 loud 1;ear e at 0;ear f at 10;ear z at 99;";
    private static final int LEAST = Integer.MIN_VALUE;
    private static final int GREATEST = Integer.MAX_VALUE;

    public static void main(String[] args) {
        bells();
        hearing();
        comingAndStanding();
        walking();
        crackingAndYears();
        images();
        aboutAll();
        Check.finish("EarnestTest");
    }

    private static void bells() {
        ChordHerds x = Check.told(TEXT, 4);
        int[][] want = {{0, 10, 0, 0, 1, 0}, {11, 99, -1, 0, 0, 0}, {0, 6, 1, 0, 1, 0}, {5, 1, 0, 0, 1, 0}};
        for (int bell = 0; bell < 4; bell++) {
            for (int what = 0; what < 6; what++) {
                Check.due("bell(" + bell + ", " + what + ")", x.bell(bell, what), want[bell][what]);
            }
            Check.due("bell, what 6", x.bell(bell, 6), -2);
            Check.due("bell, what -1", x.bell(bell, -1), -2);
            Check.due("bell, what least", x.bell(bell, LEAST), -2);
            Check.due("bell, what greatest", x.bell(bell, GREATEST), -2);
        }
        Check.due("bell(4, 0)", x.bell(4, 0), -2);
        Check.due("bell(-1, 0)", x.bell(-1, 0), -2);
        Check.due("bell(least, 0)", x.bell(LEAST, 0), -2);
        Check.due("bell(greatest, 0)", x.bell(GREATEST, 0), -2);
    }

    private static void hearing() {
        ChordHerds x = Check.told(TEXT, 4);
        Check.due("two of a TONE together", x.hear(0, 0), 16);
        Check.due("the least loudness", x.hear(0, 5), 1);
        Check.due("a STRANGER is not THERE", x.hear(0, 11), 0);
        Check.due("10 - 10 is 0, 6 - 10 is not below", x.hear(1, 0), 0);
        Check.due("chord(0)", x.chord(0), 0b100001);
        Check.due("chord(1)", x.chord(1), 0);
        Check.due("comes(1, true)", x.comes(1, true), true);
        Check.due("hear(1, 11)", x.hear(1, 11), 89);
        Check.due("hear(2, 11)", x.hear(2, 11), 0);
        Check.due("chord(1) with him", x.chord(1), 1 << 11);
        x.walk(99, 20);
        Check.due("hear(2, 11) at 99", x.hear(2, 11), 79);
        Check.due("hear(0, 11) at 99", x.hear(0, 11), 0);
        Check.due("chord(2) at 99", x.chord(2), 1 << 11);
        int[] ears = {-1, 3, LEAST, GREATEST};
        for (int ear : ears) {
            Check.due("hear(" + ear + ", 0)", x.hear(ear, 0), -1);
            Check.due("chord(" + ear + ")", x.chord(ear), -1);
        }
        int[] tones = {-1, 12, LEAST, GREATEST};
        for (int tone : tones) {
            Check.due("hear(0, " + tone + ")", x.hear(0, tone), -1);
        }
    }

    private static void comingAndStanding() {
        ChordHerds x = Check.told(TEXT, 4);
        Check.due("a BEAST is THERE already", x.comes(0, true), false);
        Check.due("a STRANGER is away already", x.comes(1, false), false);
        Check.due("one that isn't THERE can't STAND", x.stand(1, true), false);
        Check.due("nor not STAND", x.stand(1, false), false);
        Check.due("nobody STANDS at first", x.stand(0, false), false);
        Check.due("stand(0, true)", x.stand(0, true), true);
        Check.due("stand(0, true) again", x.stand(0, true), false);
        Check.due("who STANDS doesn't ring", x.hear(0, 0), 6);
        Check.due("comes(0, false)", x.comes(0, false), true);
        Check.due("comes(0, false) again", x.comes(0, false), false);
        Check.due("one that goes STANDS no more", x.bell(0, 5), 0);
        Check.due("and isn't THERE", x.bell(0, 4), 0);
        Check.due("comes(0, true)", x.comes(0, true), true);
        Check.due("and doesn't STAND", x.bell(0, 5), 0);
        Check.due("it rings", x.hear(0, 0), 16);
        Check.due("stand(0, true) then", x.stand(0, true), true);
        Check.due("stand(0, false)", x.stand(0, false), true);
        int[] bells = {-1, 4, 31, 32, LEAST, GREATEST};
        for (int bell : bells) {
            Check.due("comes(" + bell + ", true)", x.comes(bell, true), false);
            Check.due("comes(" + bell + ", false)", x.comes(bell, false), false);
            Check.due("stand(" + bell + ", true)", x.stand(bell, true), false);
            Check.due("stand(" + bell + ", false)", x.stand(bell, false), false);
        }
    }

    private static void walking() {
        ChordHerds x = Check.told(TEXT, 4);
        Check.due("walk(99, 20)", x.walk(99, 20), 0);
        int[][] wrong = {{100, 0}, {-1, 0}, {0, 21}, {0, -1}, {LEAST, 0}, {GREATEST, 0}, {0, LEAST}, {0, GREATEST}};
        for (int[] w : wrong) {
            Check.due("walk(" + w[0] + ", " + w[1] + ")", x.walk(w[0], w[1]), -1);
        }
        Check.due("PLACE", x.about(4), 99);
        Check.due("WIND", x.about(5), 20);
        Check.due("walk(4, 1)", x.walk(4, 1), 99);
        Check.due("hear(0, 0)", x.hear(0, 0), 6);
        Check.due("hear(1, 0)", x.hear(1, 0), 3);
        Check.due("walk(0, 0)", x.walk(0, 0), 4);
    }

    private static void crackingAndYears() {
        ChordHerds x = Check.told(TEXT, 4);
        Check.due("crack(0, 1)", x.crack(0, 1), 0);
        Check.due("crack(0, 2)", x.crack(0, 2), 1);
        Check.due("crack(0, 3)", x.crack(0, 3), -1);
        Check.due("crack(0, -1)", x.crack(0, -1), -1);
        Check.due("crack(4, 0)", x.crack(4, 0), -1);
        Check.due("crack(-1, 0)", x.crack(-1, 0), -1);
        Check.due("crack(least, 0)", x.crack(LEAST, 0), -1);
        Check.due("crack(0, greatest)", x.crack(0, GREATEST), -1);
        Check.due("CREEP", x.bell(0, 3), 2);
        Check.due("a STRANGER cracks, too", x.crack(1, 1), 0);
        Check.due("years(0)", x.years(0), 0);
        Check.due("years(5)", x.years(5), 5);
        Check.due("0 - 2 * 5 modulo 12", x.bell(0, 0), 2);
        Check.due("11 - 5", x.bell(1, 0), 6);
        Check.due("without CREEP", x.bell(2, 0), 0);
        Check.due("its own TONE", x.hear(0, 2), 10);
        Check.due("the other's", x.hear(0, 0), 6);
        Check.due("chord(0)", x.chord(0), 0b100101);
        Check.due("years(21)", x.years(21), -1);
        Check.due("years(-1)", x.years(-1), -1);
        Check.due("years(least)", x.years(LEAST), -1);
        Check.due("years(greatest)", x.years(GREATEST), -1);
        for (int year = 25; year <= 185; year += 20) {
            Check.due("years(20)", x.years(20), year);
        }
        Check.due("years(16) beyond 200", x.years(16), -1);
        Check.due("years(15) to 200", x.years(15), 200);
        Check.due("years(1) beyond 200", x.years(1), -1);
        Check.due("years(0) at 200", x.years(0), 200);
        Check.due("0 - 400 modulo 12", x.bell(0, 0), 8);
    }

    private static void images() {
        ChordHerds x = Check.told(TEXT, 4);
        int[] boxes = {-1, 3, LEAST, GREATEST};
        for (int box : boxes) {
            Check.due("image(" + box + ")", x.image(box), -1);
            Check.due("back(" + box + ")", x.back(box), -1);
        }
        for (int box = 0; box < 3; box++) {
            Check.due("back of an empty BOX", x.back(box), -1);
        }
        x.comes(1, true);
        x.stand(0, true);
        x.walk(7, 2);
        x.years(3);
        x.crack(2, 2);
        Check.due("image(2)", x.image(2), 3);
        x.comes(1, false);
        x.stand(0, false);
        x.walk(50, 9);
        x.years(4);
        x.crack(2, 1);
        x.crack(1, 1);
        Check.due("image(0)", x.image(0), 7);
        x.later(5);
        x.evening(0, 1);
        Check.due("back(1)", x.back(1), -1);
        Check.due("YEAR behind it", x.about(6), 7);
        Check.due("back(2)", x.back(2), 3);
        int[][] want = {{1, 4, 1}, {0, 5, 1}, {2, 3, 2}, {1, 3, 0}, {2, 0, 6}};
        for (int[] w : want) {
            Check.due("bell(" + w[0] + ", " + w[1] + ") back", x.bell(w[0], w[1]), w[2]);
        }
        Check.due("PLACE back", x.about(4), 7);
        Check.due("WIND back", x.about(5), 2);
        Check.due("YEAR back", x.about(6), 3);
        Check.due("ENTRIES stay", x.about(7), 1);
        Check.due("TIME stays", x.about(8), 5);
        x.crack(2, 0);
        Check.due("a BOX stays as it was kept", x.back(2), 3);
        Check.due("its CREEP", x.bell(2, 3), 2);
        Check.due("back(0)", x.back(0), 7);
        Check.due("the other CREEP", x.bell(2, 3), 1);
        Check.due("image(2) over it", x.image(2), 7);
        Check.due("back(2) then", x.back(2), 7);
    }

    private static void aboutAll() {
        ChordHerds x = Check.told(TEXT, 4);
        x.walk(12, 13);
        x.years(14);
        x.later(15);
        x.evening(0, 1);
        x.evening(0, 1);
        x.untell(0);
        x.feed(0, 0, 0, 0, 0);
        x.dealt(1);
        int[] want = {2, 3, 1, 3, 12, 13, 14, 2, 15, 20, 3};
        for (int what = 0; what < want.length; what++) {
            Check.due("about(" + what + ")", x.about(what), want[what]);
        }
        int[] wrong = {-1, 11, LEAST, GREATEST};
        for (int what : wrong) {
            Check.due("about(" + what + ")", x.about(what), -1);
        }
    }
}
