/** Promises 1 to 13 and 28 to 30 in states at their edges: what a VALLEY sets back, what lacks a sort, what is full. */
public final class StateEdgesTest {
    private static final int NONE = ChordHerds.NONE;

    public static void main(String[] args) {
        newObjectAnswersAll();
        feedAtItsEnd();
        highestByteFirst();
        valleyOfNothing();
        valleySetsAllBack();
        valleyBehindValleys();
        valleyLeavesTheTime();
        faultLeavesAll();
        faultOfTheLatestValley();
        noHerd();
        noBeast();
        noStranger();
        noEar();
        noEntry();
        allFull();
        oneThatGoesStandsNoMore();
        walkTellsWhatWas();
        yearsTo200();
        timesTo100000();
        boxesKeepAll();
        boxesOfAnotherValley();
        Check.finish("StateEdgesTest");
    }

    private static void abouts(String told, ChordHerds x, int... want) {
        for (int what = 0; what < want.length; what++) {
            Check.due(told + ", about(" + what + ")", x.about(what), want[what]);
        }
    }

    private static void newObjectAnswersAll() {
        ChordHerds x = new ChordHerds();
        abouts("new", x, 0, 0, 0, 0, 0, 0, 0, 0, 0, 0, 0, NONE);
        Check.due("no FAULT", x.fault(0), 0);
        Check.due("no place", x.fault(1), NONE);
        Check.due("end(0)", x.end(0), 0);
        Check.due("walk", x.walk(99, 20), 0);
        Check.due("years", x.years(20), 20);
        Check.due("later", x.later(1000), 1000);
        Check.due("evening", x.evening(20, 4095), 0);
        Check.due("untell", x.untell(0), true);
        Check.due("image", x.image(2), 20);
        Check.due("back", x.back(2), 20);
        Check.due("cracked", x.cracked(1000), 0);
        Check.due("dealt", x.dealt(1), 0);
        Check.due("valley", x.valley(), 0);
        abouts("an empty VALLEY", x, 0, 0, 0, 0, 0, 0, 0, 0, 1000, 0, 0);
    }

    private static void feedAtItsEnd() {
        for (int left = 0; left <= 40; left++) {
            ChordHerds x = new ChordHerds();
            for (int i = 0; i < 75; i++) {
                x.feed(0, 0, 0, 0, 0);
            }
            x.end(1500 - left);
            int want = left >= 20 ? 1520 - left : NONE;
            Check.due("feed with " + left + " left", x.feed(0, 0, 0, 0, 0), want);
            Check.due("bytes then", x.about(9), left >= 20 ? want : 1500 - left);
        }
    }

    private static void highestByteFirst() {
        ChordHerds x = new ChordHerds();
        // "herd" "h;ea" "re a" "t1;s"... each number's highest byte is the first
        Check.due("feed", x.feed(0x68657264, 0x20683b65, 0x61722065, 0x20617420, 0x313b2020), 20);
        Check.due("valley", x.valley(), 0);
        abouts("of the text", x, 1, 0, 0, 1);
        // bytes above 127 are no signs of the text, wherever they stand in a number
        for (int at = 0; at < 4; at++) {
            int bytes = 0x20202020 | 0x80 << 8 * (3 - at);
            Check.due("feed", x.feed(bytes, 0, 0, 0, 0), 20);
            x.end(4);
            Check.due("valley", x.valley(), NONE);
            Check.due("FAULT", x.fault(0), 1);
            Check.due("place", x.fault(1), at);
        }
    }

    private static void valleyOfNothing() {
        ChordHerds x = States.some();
        x.end(0);
        Check.due("an empty text", x.valley(), 0);
        abouts("an empty text", x, 0, 0, 0, 0, 0, 0, 0, 0, 7, 0, 0);
        Check.due("no BELL", x.bell(0, 0), -2);
        Check.due("no EAR", x.chord(0), NONE);
        Check.due("no BOX", x.back(1), NONE);
        Check.due("no spring", x.parted(0, 0, 7), -2);
        Check.due("no FAULT", x.fault(0), 0);
        Check.due("no place", x.fault(1), NONE);
    }

    private static void valleySetsAllBack() {
        ChordHerds x = States.full();
        x.end(0);
        Check.tape(x, States.SOME_TEXT);
        Check.due("another VALLEY", x.valley(), 5);
        ChordHerds y = Check.told(States.SOME_TEXT, 5);
        Check.due("it is as on a new object", Seen.of(x).equals(Seen.of(y)), true);
        ChordHerds z = States.some();
        Check.tape(z, "");
        Check.tape(z, States.fullText());
        Check.due("a VALLEY of more", z.valley(), 11);
        ChordHerds like = Check.told(States.fullText(), 11);
        like.later(7);
        Check.due("but for the TIME as on a new object", Seen.of(z).equals(Seen.of(like)), true);
    }

    /** Whatever was told before, a VALLEY is as if told first. */
    private static void valleyBehindValleys() {
        String[] texts = {States.fullText(), States.SOME_TEXT, "", "herd h;beast a of h bell 3 loud 4;ear e at 1;ear f at 2;",
            States.SOME_TEXT, States.fullText(), "herd q;herd r;stranger s bell 1 loud 1;beast a of r bell 2 loud 3;"
            + "beast b of q bell 9 loud 8;ear e at 1;ear f at 2;", States.SOME_TEXT};
        for (int last = 0; last < texts.length; last++) {
            ChordHerds x = new ChordHerds();
            for (int i = 0; i <= last; i++) {
                Check.tape(x, texts[i]);
                x.valley();
            }
            ChordHerds y = new ChordHerds();
            Check.tape(y, texts[last]);
            y.valley();
            Check.due("springs alike", x.spring(0, 0, 1, 0, 0) == y.spring(0, 0, 1, 0, 0), true);
            Check.due("SOUNDS alike", x.sound(0, 0, 0, 1, 99) == y.sound(0, 0, 0, 1, 99), true);
            Check.due("the VALLEY " + last + " as if told first", Seen.of(x).equals(Seen.of(y)), true);
        }
    }

    private static void valleyLeavesTheTime() {
        ChordHerds x = States.late();
        Check.due("valley()", x.valley(), 0);
        abouts("only the TIME stays", x, 0, 0, 0, 0, 0, 0, 0, 0, 100000, 0, 0);
        Check.due("and is the last still", x.later(1), NONE);
    }

    private static void faultLeavesAll() {
        ChordHerds x = States.some();
        ChordHerds y = States.some();
        Check.due("a FAULT", x.valley(), NONE);
        Check.due("the TAPE is empty then", x.about(9), 0);
        Check.due("which", x.fault(0), 2);
        Check.due("where", x.fault(1), 14);
        Check.tape(x, "herd q;herd q;");
        x.valley();
        Check.tape(x, "ear q at 7;ear");
        Check.due("all else is as before", Seen.of(x).equals(Seen.of(y)), true);
    }

    private static void faultOfTheLatestValley() {
        ChordHerds x = new ChordHerds();
        String[] texts = {"herd $", "herd", "herd h;herd h", "ear e at 100", "beast a of h", ""};
        int[] faults = {1, 2, 3, 4, 5, 0};
        int[] places = {5, 4, 12, 9, 11, NONE};
        for (int i = 0; i < texts.length; i++) {
            Check.tape(x, texts[i]);
            Check.due("valley of " + texts[i], x.valley(), faults[i] == 0 ? 0 : NONE);
            for (int again = 0; again < 2; again++) {
                Check.due("fault(0) of " + texts[i], x.fault(0), faults[i]);
                Check.due("fault(1) of " + texts[i], x.fault(1), places[i]);
            }
        }
    }

    private static void noHerd() {
        ChordHerds x = Check.told("stranger s bell 0 loud 9;ear e at 0;ear f at 0;", 1);
        abouts("no HERD", x, 0, 0, 1, 2);
        Check.due("his HERD", x.bell(0, 2), NONE);
        Check.due("he is not THERE", x.hear(0, 0), 0);
        Check.due("cracked", x.cracked(0), 0);
        Check.due("dealt", x.dealt(2), 0);
        Check.due("the row has nobody", x.lies(0), NONE);
        Check.due("fresh", x.fresh(9, 0), 0);
        Check.due("he is no neighbour", x.fresh(9, 1), -2);
        x.spring(0, 0, 1, 0, 0);
        Check.due("parted", x.parted(0, 0, 0), 1);
        Check.due("MIXED", x.parted(0, 3, 0), 0);
    }

    private static void noBeast() {
        ChordHerds x = Check.told("herd h;herd g;herd i;ear e at 0;ear f at 5;", 0);
        abouts("no BEAST", x, 3, 0, 0, 2);
        Check.due("hear", x.hear(0, 0), 0);
        Check.due("chord", x.chord(1), 0);
        Check.due("sets", x.sets(0, 0, 0, 0), 1);
        Check.due("note", x.note(0, 0, 0, 99), 0);
        Check.due("came", x.came(0, 0, 0, 0, 0), -2);
        x.evening(0, 0);
        Check.due("cracked", x.cracked(0), 0);
        Check.due("first", x.first(0), NONE);
        Check.due("dealt(1)", x.dealt(1), 0);
        Check.due("dealt(2)", x.dealt(2), 0);
        Check.due("BEASTS of the row", x.about(10), 0);
        Check.due("fresh", x.fresh(1, 0), 0);
        Check.due("no neighbour", x.fresh(1, 1), -2);
        x.spring(0, 0, 1, 5, 0);
        int[] want = {1, 0, 0, 0, 0};
        for (int what = 0; what < 5; what++) {
            Check.due("parted, what " + what, x.parted(0, what, 0), want[what]);
        }
    }

    private static void noStranger() {
        ChordHerds x = Check.told("herd h;beast a of h bell 0 loud 9;ear e at 0;", 1);
        abouts("no STRANGER", x, 1, 1, 0, 1);
        for (int bell = -1; bell < 3; bell++) {
            Check.due("came of none", x.came(bell, 0, 0, 0, 0), -2);
        }
        Check.due("the BEAST is no STRANGER", x.came(0, 0, 0, 1, 0), -2);
    }

    private static void noEar() {
        ChordHerds x = Check.told("herd h;beast a of h bell 0 loud 9;stranger s bell 0 loud 9;", 2);
        abouts("no EAR", x, 1, 1, 1, 0);
        Check.due("hear", x.hear(0, 0), NONE);
        Check.due("chord", x.chord(0), NONE);
        Check.due("sound", x.sound(0, 0, 0, 0, 0), NONE);
        Check.due("note", x.note(0, 0, 0, 0), NONE);
        Check.due("spring", x.spring(0, 0, 0, 0, 0), false);
        Check.due("parted", x.parted(0, 0, 0), -2);
        Check.due("ENTRIES", x.about(7), 0);
        Check.due("evening", x.evening(0, 1), 0);
        Check.due("sets", x.sets(0, 0, 0, 0), 4);
        Check.due("came", x.came(1, 0, 0, 0, 0), 97);
        Check.due("cracked", x.cracked(0), 0);
        ChordHerds one = Check.told("ear e at 0;", 0);
        Check.due("one EAR is not two", one.spring(0, 0, 0, 5, 0), false);
        Check.due("nor is there another", one.spring(0, 0, 1, 5, 0), false);
        Check.due("either way", one.spring(1, 0, 0, 5, 0), false);
    }

    private static void noEntry() {
        ChordHerds x = Check.told(States.SOME_TEXT, 5);
        Check.due("untell(0)", x.untell(0), false);
        Check.due("untell(-1)", x.untell(-1), false);
        Check.due("sets", x.sets(0, 0, 0, 0), 32);
        x.spring(0, 0, 1, 0, 0);
        Check.due("parted", x.parted(0, 0, 0), 8);
        Check.due("came", x.came(1, 0, 0, 0, 0), 97);
        Check.due("came first", x.came(1, 0, 0, 1, 0), 0);
        Check.due("came last", x.came(1, 0, 0, 2, 0), 96);
        Check.due("cracked", x.cracked(0), 0);
        Check.due("first", x.first(0), NONE);
    }

    private static void allFull() {
        ChordHerds x = States.full();
        abouts("all full", x, 3, 9, 2, 4, 99, 20, 0, 40, 0, 1500, 0);
        Check.due("the last BELL's loudness", x.bell(10, 1), 1);
        Check.due("the last BEAST's HERD", x.bell(8, 2), 2);
        Check.due("the last EAR", x.chord(3), 0);
        Check.due("hear at 99 by the second EAR", x.hear(1, 11), 79);
        Check.due("the VALLEY of 1500 blanks", x.valley(), 0);
        Check.due("its FAULT", x.fault(0), 0);
    }

    private static void oneThatGoesStandsNoMore() {
        ChordHerds x = Check.told(States.SOME_TEXT, 5);
        for (int bell = 0; bell < 5; bell++) {
            boolean beast = x.bell(bell, 2) >= 0;
            Check.due("comes at first", x.comes(bell, true), !beast);
            Check.due("stands", x.stand(bell, true), true);
            Check.due("stands already", x.stand(bell, true), false);
            Check.due("comes while it STANDS", x.comes(bell, true), false);
            Check.due("STANDS still", x.bell(bell, 5), 1);
            Check.due("goes", x.comes(bell, false), true);
            Check.due("STANDS no more", x.bell(bell, 5), 0);
            Check.due("can't STAND", x.stand(bell, true), false);
            Check.due("can't but STAND", x.stand(bell, false), false);
            Check.due("goes again", x.comes(bell, false), false);
            Check.due("comes again", x.comes(bell, true), true);
            Check.due("doesn't STAND", x.stand(bell, false), false);
            Check.due("THERE", x.bell(bell, 4), 1);
        }
    }

    private static void walkTellsWhatWas() {
        ChordHerds x = Check.told(States.SOME_TEXT, 5);
        Check.due("PLACE 0 at first", x.walk(99, 0), 0);
        Check.due("PLACE 99", x.walk(0, 20), 99);
        Check.due("PLACE 0", x.walk(0, 20), 0);
        Check.due("PLACE can't be", x.walk(100, 20), NONE);
        Check.due("WIND can't be", x.walk(99, 21), NONE);
        Check.due("neither can be", x.walk(-1, -1), NONE);
        Check.due("PLACE 0 still", x.about(4), 0);
        Check.due("WIND 20 still", x.about(5), 20);
    }

    private static void yearsTo200() {
        ChordHerds x = Check.told(States.SOME_TEXT, 5);
        for (int i = 1; i < 10; i++) {
            Check.due("years(20)", x.years(20), 20 * i);
        }
        Check.due("years(19)", x.years(19), 199);
        for (int by = 2; by <= 21; by++) {
            Check.due("years(" + by + ") at 199", x.years(by), NONE);
        }
        Check.due("YEAR 199", x.about(6), 199);
        Check.due("image in 199", x.image(0), 199);
        Check.due("years(1)", x.years(1), 200);
        Check.due("image in 200", x.image(1), 200);
        Check.due("back to 199", x.back(0), 199);
        Check.due("years(1) once more", x.years(1), 200);
        Check.due("years(1) beyond", x.years(1), NONE);
        Check.due("years(0)", x.years(0), 200);
    }

    private static void timesTo100000() {
        ChordHerds x = new ChordHerds();
        for (int i = 1; i < 100; i++) {
            x.later(1000);
        }
        Check.due("99000", x.later(0), 99000);
        Check.due("later(1000)", x.later(1000), 100000);
        Check.due("later(1)", x.later(1), NONE);
        Check.due("100000", x.later(0), 100000);
        Check.due("an EVENING at the last TIME", x.evening(0, 1), 0);
        Check.due("counts then", x.cracked(100000), NONE);
        Check.due("not ahead of it", x.cracked(99999), 0);
        Check.due("untell", x.untell(0), true);
        Check.due("no more", x.cracked(100000), 0);
    }

    /** All six of what is in earnest, in each BOX, changed one by one behind it. */
    private static void boxesKeepAll() {
        for (int box = 0; box < 3; box++) {
            ChordHerds x = Check.told(States.SOME_TEXT, 5);
            Check.due("nothing was kept", x.back(box), NONE);
            x.comes(4, true);
            x.stand(4, true);
            x.walk(12, 3);
            x.crack(4, 2);
            x.years(7);
            Check.due("image", x.image(box), 7);
            x.comes(0, false);
            x.comes(4, false);
            x.walk(99, 20);
            x.crack(4, 0);
            x.crack(0, 1);
            x.years(1);
            x.evening(0, 0);
            x.later(3);
            Check.due("no other BOX", x.back((box + 1) % 3), NONE);
            Check.due("nor the third", x.back((box + 2) % 3), NONE);
            Check.due("YEAR 8 still", x.about(6), 8);
            Check.due("back", x.back(box), 7);
            abouts("back", x, 2, 3, 2, 3, 12, 3, 7, 1, 3, 0, 0);
            int[][] want = {{0, 3, 0}, {0, 4, 1}, {4, 3, 2}, {4, 4, 1}, {4, 5, 1}};
            for (int[] w : want) {
                Check.due("bell(" + w[0] + ", " + w[1] + ")", x.bell(w[0], w[1]), w[2]);
            }
            x.years(5);
            Check.due("back again", x.back(box), 7);
        }
    }

    private static void boxesOfAnotherValley() {
        ChordHerds x = Check.told(States.SOME_TEXT, 5);
        for (int box = 0; box < 3; box++) {
            x.image(box);
        }
        Check.tape(x, "herd");
        x.valley();
        for (int box = 0; box < 3; box++) {
            Check.due("kept behind a FAULT", x.back(box), 0);
        }
        Check.tape(x, States.SOME_TEXT);
        x.valley();
        for (int box = 0; box < 3; box++) {
            Check.due("empty behind a VALLEY", x.back(box), NONE);
        }
    }
}
