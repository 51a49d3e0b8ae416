/** Promises 1 to 5: a new object, the TAPE, the text of a VALLEY and its FAULTS. */
public final class ValleyTest {
    private static final String HERD = "herd h;";
    private static final String BEAST = "beast a of h bell 0 loud 10;";

    public static void main(String[] args) {
        newObject();
        tapeHasAtMost1500Bytes();
        tapeKeepsTheHighestByteFirst();
        endCutsTheTape();
        valleyBeginsAnew();
        faultLeavesAll();
        nothingIsLeftOfTheValleyBefore();
        bytesCutOffAreGone();
        tokens();
        wordsThatCantStand();
        tooManyOfASort();
        mostOfEachSort();
        namesToldAlready();
        numbersThatCantBe();
        namesThatNothingHas();
        Check.finish("ValleyTest");
    }

    private static void newObject() {
        ChordHerds x = new ChordHerds();
        for (int what = 0; what <= 10; what++) {
            Check.due("about(" + what + ") at first", x.about(what), 0);
        }
        Check.due("fault(0) at first", x.fault(0), 0);
        Check.due("fault(1) at first", x.fault(1), -1);
        Check.due("bell(0, 0) at first", x.bell(0, 0), -2);
        Check.due("sets at first", x.sets(0, 0, 0, 0), 1);
        Check.due("WHERE at first", x.sets(0, 0, 3, 0), 100);
        Check.due("cracked(0) at first", x.cracked(0), 0);
        Check.due("dealt(2) at first", x.dealt(2), 0);
        Check.due("fresh(99, 0) at first", x.fresh(99, 0), 0);
        Check.due("image(0) at first", x.image(0), 0);
    }

    private static void tapeHasAtMost1500Bytes() {
        ChordHerds x = new ChordHerds();
        for (int i = 1; i <= 75; i++) {
            Check.due("feed", x.feed(0, 0, 0, 0, 0), i * 20);
        }
        Check.due("feed beyond 1500", x.feed(0, 0, 0, 0, 0), -1);
        Check.due("about(9)", x.about(9), 1500);
        Check.due("end(1481)", x.end(1481), 1481);
        Check.due("feed to 1501", x.feed(0, 0, 0, 0, 0), -1);
        Check.due("about(9) behind it", x.about(9), 1481);
        Check.due("end(1480)", x.end(1480), 1480);
        Check.due("feed to 1500", x.feed(0, 0, 0, 0, 0), 1500);
        StringBuilder text = new StringBuilder(HERD);
        while (text.length() < 1500) {
            text.append(text.length() % 2 == 0 ? ' ' : '\n');
        }
        Check.told(text.toString(), 0);
        text.setCharAt(1499, ';');
        Check.faulty(text.toString(), 2, 1499);
        StringBuilder stops = new StringBuilder();
        while (stops.length() < 1500) {
            stops.append(';');
        }
        Check.faulty(stops.toString(), 2, 0);
    }

    private static void tapeKeepsTheHighestByteFirst() {
        ChordHerds x = new ChordHerds();
        Check.due("feed", x.feed(0x68657264, 0x20613b20, 0x65617220, 0x62206174, 0x2039393b), 20);
        Check.due("valley()", x.valley(), 0);
        Check.due("HERDS", x.about(0), 1);
        Check.due("EARS", x.about(3), 1);
        Check.due("bytes behind valley()", x.about(9), 0);
    }

    private static void endCutsTheTape() {
        ChordHerds x = new ChordHerds();
        Check.due("end(0) of none", x.end(0), 0);
        Check.due("end(1) of none", x.end(1), -1);
        x.feed(0, 0, 0, 0, 0);
        Check.due("end(21) of 20", x.end(21), -1);
        Check.due("end(-1) of 20", x.end(-1), -1);
        Check.due("end(least)", x.end(Integer.MIN_VALUE), -1);
        Check.due("end(greatest)", x.end(Integer.MAX_VALUE), -1);
        Check.due("about(9)", x.about(9), 20);
        Check.due("end(20) of 20", x.end(20), 20);
        Check.due("end(7) of 20", x.end(7), 7);
        Check.due("end(8) of 7", x.end(8), -1);
        Check.due("feed behind 7", x.feed(0, 0, 0, 0, 0), 27);
    }

    private static void valleyBeginsAnew() {
        String text = HERD + BEAST + "stranger s bell 3 loud 5;ear e at 0;ear f at 9;";
        ChordHerds x = Check.told(text, 2);
        x.later(7);
        x.walk(5, 3);
        x.comes(1, true);
        x.stand(0, true);
        x.crack(0, 2);
        x.years(4);
        x.image(1);
        x.sound(0, 0, 0, 1, 1);
        x.spring(0, 0, 1, 0, 0);
        x.dealt(1);
        Check.due("a row lies there", x.about(10), 1);
        Check.tape(x, text);
        Check.due("valley() again", x.valley(), 2);
        Check.due("PLACE", x.about(4), 0);
        Check.due("WIND", x.about(5), 0);
        Check.due("YEAR", x.about(6), 0);
        Check.due("ENTRIES", x.about(7), 0);
        Check.due("TIME stays", x.about(8), 7);
        Check.due("the row", x.about(10), 0);
        Check.due("lies(0)", x.lies(0), -1);
        Check.due("BOX 1", x.back(1), -1);
        Check.due("CREEP", x.bell(0, 3), 0);
        Check.due("BEAST THERE", x.bell(0, 4), 1);
        Check.due("STRANGER THERE", x.bell(1, 4), 0);
        Check.due("STANDS", x.bell(0, 5), 0);
        Check.due("parted", x.parted(0, 0, 7), -2);
        Check.due("untell(0)", x.untell(0), false);
        Check.due("valley() of an empty TAPE", x.valley(), 0);
        Check.due("HERDS", x.about(0), 0);
        Check.due("EARS", x.about(3), 0);
    }

    private static void faultLeavesAll() {
        ChordHerds x = Check.told(HERD + BEAST + "ear e at 0;ear f at 9;", 1);
        x.walk(5, 3);
        x.crack(0, 2);
        x.years(4);
        x.image(1);
        x.sound(0, 0, 0, 1, 1);
        x.spring(0, 0, 1, 0, 0);
        x.dealt(1);
        Check.tape(x, "herd g;herd g;");
        Check.due("valley() with a FAULT", x.valley(), -1);
        Check.due("fault(0)", x.fault(0), 3);
        Check.due("fault(1)", x.fault(1), 12);
        Check.due("fault(2)", x.fault(2), -1);
        Check.due("fault(-1)", x.fault(-1), -1);
        Check.due("bytes on the TAPE", x.about(9), 0);
        Check.due("BEASTS", x.about(1), 1);
        Check.due("PLACE", x.about(4), 5);
        Check.due("YEAR", x.about(6), 4);
        Check.due("ENTRIES", x.about(7), 1);
        Check.due("the row", x.about(10), 1);
        Check.due("BOX 1", x.back(1), 4);
        Check.due("parted", x.parted(0, 0, 0) >= 0, true);
        Check.tape(x, "herd g;");
        Check.due("valley() behind a FAULT", x.valley(), 0);
        Check.due("fault(0) of a good one", x.fault(0), 0);
        Check.due("fault(1) of a good one", x.fault(1), -1);
    }

    private static void nothingIsLeftOfTheValleyBefore() {
        ChordHerds x = new ChordHerds();
        String other = "herd h;herd g;beast b of g bell 5 loud 5;beast a of h bell 0 loud 10;ear e at 0;ear f at 0;";
        for (int i = 0; i < 4; i++) {
            Check.tape(x, besides(20));
            Check.due("valley() of many", x.valley(), 9);
            Check.due("FAULT of many", x.fault(0), 0);
            Check.due("each beside some", x.fresh(50, 2) != ChordHerds.NONE, true);
            for (int again = 0; again <= i % 2; again++) {
                Check.tape(x, other);
                Check.due("valley() of few", x.valley(), 2);
            }
            Check.due("nobody beside: 6 from 5", x.fresh(50, 1), 11);
            x.spring(0, 0, 1, 0, 0);
            Check.due("b here", x.sound(0, 0, 5, 5, 5), 0);
            Check.due("a there", x.sound(0, 1, 0, 10, 10), 1);
            Check.due("none of few is MIXED", x.parted(0, 3, 0), 0);
            Check.due("the least set", x.parted(0, 4, 0), 1);
        }
    }

    private static void bytesCutOffAreGone() {
        String[] longer = {"ear e at 12345;", "ear e at 1x", "ear e at 1;"};
        for (String text : longer) {
            ChordHerds x = new ChordHerds();
            Check.tape(x, text);
            x.end(10);
            Check.due("valley()", x.valley(), -1);
            Check.due("fault(0)", x.fault(0), 2);
            Check.due("fault(1)", x.fault(1), 10);
        }
        ChordHerds y = new ChordHerds();
        Check.tape(y, "herd herdsmansway");
        y.end(9);
        y.valley();
        Check.due("herd, not more", y.fault(0), 2);
        Check.due("its place", y.fault(1), 5);
    }

    private static void tokens() {
        Check.faulty("", 0, -1);
        Check.faulty(" \n ", 0, -1);
        Check.faulty("\nherd\n\nh ; ear e at0;ear f at 0099;beast abcdefgh of h bell0loud1;", 1, 59);
        Check.faulty("herd h;ear e at0;ear f at 0099;beast abcdefgh of h bell0 loud1;", 0, -1);
        Check.faulty("herd abcdefghi;", 1, 5);
        Check.faulty("ear e at 00001;", 1, 9);
        Check.faulty("ear e at 12345678901234567890;", 1, 9);
        Check.faulty("ear e at 5x;", 1, 9);
        Check.faulty("ear e at 5 x", 2, 11);
        Check.faulty("herd H;", 1, 5);
        Check.faulty("herd\th;", 1, 4);
        Check.faulty("herd h\r;", 1, 6);
        Check.faulty("herd h;" + (char) 0, 1, 7);
        Check.faulty("herd " + (char) 233, 1, 5);
        Check.faulty("herd `", 1, 5);
        Check.faulty("herd {", 1, 5);
        Check.faulty("ear e at :", 1, 9);
        Check.faulty("ear e at /", 1, 9);
        Check.faulty("herd h5;", 2, 6);
        Check.faulty("strangers bell 0 loud 1;", 1, 0);
    }

    private static void wordsThatCantStand() {
        Check.faulty(";", 2, 0);
        Check.faulty("7;", 2, 0);
        Check.faulty("of", 2, 0);
        Check.faulty("cow a;", 2, 0);
        Check.faulty("herd", 2, 4);
        Check.faulty("herd  \n", 2, 7);
        Check.faulty("herd h", 2, 6);
        Check.faulty("herd h herd", 2, 7);
        Check.faulty("herd ;", 2, 5);
        Check.faulty("herd 5;", 2, 5);
        Check.faulty("herd h;;", 2, 7);
        String[] own = {"herd", "beast", "of", "bell", "loud", "stranger", "ear", "at", "beside"};
        for (String word : own) {
            Check.faulty("herd " + word + ";", 2, 5);
            Check.faulty("ear " + word + " at 0;", 2, 4);
            Check.faulty("stranger " + word + " bell 0 loud 1;", 2, 9);
            Check.faulty(HERD + "beast a of " + word, 2, 18);
            Check.faulty(HERD + BEAST + "beside " + word, 2, 42);
            Check.faulty(HERD + BEAST + "beside a " + word, 2, 44);
        }
        Check.faulty(HERD + "beast a h", 2, 15);
        Check.faulty(HERD + "beast a of h loud", 2, 20);
        Check.faulty(HERD + "beast a of h bell x", 2, 25);
        Check.faulty(HERD + "beast a of h bell 0 bell", 2, 27);
        Check.faulty(HERD + "beast a of h bell 0 loud loud", 2, 32);
        Check.faulty(HERD + "beast a of h bell 0 loud 1 1", 2, 34);
        Check.faulty("stranger s of h", 2, 11);
        Check.faulty("ear e 5", 2, 6);
        Check.faulty("ear e at x", 2, 9);
        Check.faulty(HERD + BEAST + "beside a;", 2, 43);
        Check.faulty(HERD + BEAST + "beast b of h bell 0 loud 1;beside a b b", 2, 73);
    }

    private static String beasts(int many) {
        StringBuilder text = new StringBuilder(HERD);
        for (int i = 0; i < many; i++) {
            text.append("beast ").append((char) ('a' + i)).append(" of h bell 0 loud ").append(i + 1).append(';');
        }
        return text.toString();
    }

    private static String besides(int many) {
        StringBuilder text = new StringBuilder(beasts(9));
        int left = many;
        for (char a = 'a'; a < 'j'; a++) {
            for (char b = 'a'; b < a && left > 0; b++) {
                text.append("beside ").append(a).append(' ').append(b).append(';');
                left--;
            }
        }
        return text.toString();
    }

    private static void tooManyOfASort() {
        Check.faulty("herd a;herd b;herd c;herd", 2, 21);
        Check.faulty("herd a;herd b;herd c;herd a", 2, 21);
        Check.faulty(beasts(9) + "beast", 2, beasts(9).length());
        Check.faulty(beasts(9) + " beast a", 2, beasts(9).length() + 1);
        String two = "stranger s bell 0 loud 1;stranger t bell 0 loud 1;";
        Check.faulty(two + "stranger u", 2, two.length());
        String four = "ear a at 0;ear b at 0;ear c at 0;ear d at 0;";
        Check.faulty(four + "ear e", 2, four.length());
        Check.faulty(besides(20) + "beside", 2, besides(20).length());
        Check.faulty("herd a;herd b;herd c;herd$", 2, 21);
    }

    private static void mostOfEachSort() {
        String text = "herd i;herd j;" + besides(20)
            + "stranger s bell 11 loud 99;stranger t bell 0 loud 1;"
            + "ear a at 0;ear b at 99;ear c at 1;ear d at 0;";
        Check.faulty(text + "$", 1, text.length());
        Check.faulty(text + " a", 2, text.length() + 1);
        Check.faulty(text + "12345", 1, text.length());
        String[] first = {"herd", "beast", "stranger", "ear", "beside"};
        for (String word : first) {
            Check.faulty(text + word + " z", 2, text.length());
        }
        ChordHerds x = Check.told(text + " \n", 11);
        Check.due("HERDS", x.about(0), 3);
        Check.due("BEASTS", x.about(1), 9);
        Check.due("STRANGERS", x.about(2), 2);
        Check.due("EARS", x.about(3), 4);
        Check.due("the last BELL", x.bell(10, 1), 1);
        Check.due("a HERD told last", x.bell(0, 2), 2);
    }

    private static void namesToldAlready() {
        Check.faulty("herd a;herd a", 3, 12);
        Check.faulty(HERD + BEAST + "beast a", 3, 41);
        Check.faulty(HERD + BEAST + "stranger a", 3, 44);
        Check.faulty("stranger s bell 0 loud 1;" + HERD + "beast s", 3, 38);
        Check.faulty("stranger s bell 0 loud 1;stranger s", 3, 34);
        Check.faulty("ear e at 0;ear e", 3, 15);
        Check.faulty("herd a;beast a of a bell 0 loud 1;ear a at 0;", 0, -1);
        String two = HERD + BEAST + "beast b of h bell 0 loud 1;";
        Check.faulty(two + "beside a a", 3, two.length() + 9);
        Check.faulty(two + "beside a b;beside a b", 3, two.length() + 20);
        Check.faulty(two + "beside a b;beside b a", 3, two.length() + 20);
        Check.faulty(two + "beside a b;", 0, -1);
    }

    private static void numbersThatCantBe() {
        Check.faulty("stranger s bell 11 loud 99;", 0, -1);
        Check.faulty("stranger s bell 0 loud 1;", 0, -1);
        Check.faulty("stranger s bell 12 loud 1;", 4, 16);
        Check.faulty("stranger s bell 9999 loud 1;", 4, 16);
        Check.faulty("stranger s bell 1 loud 0;", 4, 23);
        Check.faulty("stranger s bell 1 loud 0000", 4, 23);
        Check.faulty("stranger s bell 1 loud 100", 4, 23);
        Check.faulty(HERD + "beast a of h bell 12", 4, 25);
        Check.faulty(HERD + "beast a of h bell 0 loud 100", 4, 32);
        Check.faulty("ear e at 99;", 0, -1);
        Check.faulty("ear e at 100;", 4, 9);
        Check.faulty("ear e at 5ab", 1, 9);
    }

    private static void namesThatNothingHas() {
        Check.faulty("beast a of h", 5, 11);
        Check.faulty("beast a of a", 5, 11);
        Check.faulty("ear h at 0;beast a of h", 5, 22);
        Check.faulty(HERD + BEAST + "beside h a", 5, 42);
        Check.faulty(HERD + BEAST + "beside a h", 5, 44);
        Check.faulty(HERD + BEAST + "beside x x", 5, 42);
        String stranger = HERD + BEAST + "stranger s bell 0 loud 1;";
        Check.faulty(stranger + "beside a s", 5, stranger.length() + 9);
        Check.faulty(stranger + "beside s s", 5, stranger.length() + 7);
    }
}
