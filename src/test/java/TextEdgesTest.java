/** ==== 1 of the document, sentence by sentence: the edges of TOKENS, lines, limits and FAULTS. */
public final class TextEdgesTest {
    private static final String HERD = "herd h;";
    private static final String BEAST = "beast a of h bell 0 loud 10;";
    private static final String TWO = HERD + BEAST + "beast b of h bell 0 loud 1;";
    /** One good line of each sort, behind what it needs. */
    private static final String[] AHEAD = {"", HERD, "", "", TWO};
    private static final String[] LINES = {"herd x ;", "beast x of h bell 3 loud 4 ;", "stranger x bell 3 loud 4 ;",
        "ear x at 5 ;", "beside a b ;"};
    private static final String[] OWN = {"herd", "beast", "of", "bell", "loud", "stranger", "ear", "at", "beside"};

    public static void main(String[] args) {
        textOfAtMost1500Bytes();
        wordsOf8LettersAtMost();
        numbersOf1To4Digits();
        signsThatAreTokens();
        blanksPartThemOrNot();
        eachIsAsLongAsCanBe();
        noLetterBehindANumber();
        ownWordsAreNoNames();
        eachTokenCutOff();
        eachTokenOfAnotherSort();
        eachTokenThatIsNone();
        herdsToldAhead();
        besideBeastsToldAhead();
        eachTwoOnce();
        twentyBesideLines();
        oneTooManyBeforeAllElse();
        numbersAtTheirEnds();
        namesOfTheirOwnSort();
        numberedAsTold();
        placeOfTheEnd();
        theFirstByItsPlace();
        atOnePlaceTheLeast();
        Check.finish("TextEdgesTest");
    }

    private static void good(String text) {
        Check.faulty(text, 0, -1);
    }

    private static String filled(String text, int length) {
        return text + " ".repeat(length - text.length());
    }

    private static void textOfAtMost1500Bytes() {
        good("");
        String full = States.fullText();
        String last = "ear q at 99;";
        String fewer = full.replace("ear d at 0;", "");
        ChordHerds x = Check.told(filled(fewer, 1500 - last.length()) + last, 11);
        Check.due("the line that ends the 1500 bytes", x.about(3), 4);
        Check.faulty(filled(fewer, 1500 - last.length()) + "ear q at 99 ", 2, 1500);
        Check.faulty(filled(full, 1499) + "$", 1, 1499);
        Check.faulty(filled(full, 1499) + "x", 2, 1499);
        Check.faulty("x".repeat(1500), 1, 0);
        Check.faulty("1".repeat(1500), 1, 0);
        Check.faulty(";".repeat(1500), 2, 0);
        Check.faulty("herd x;" + "y".repeat(1493), 1, 7);
        good(" ".repeat(1500));
        good("\n".repeat(1500));
        Check.faulty("herd x;" + "ear ".repeat(373), 2, 11);
    }

    private static void wordsOf8LettersAtMost() {
        String eight = "abcdefgh";
        String nine = "abcdefghi";
        for (int i = 0; i < 4; i++) {
            good(AHEAD[i] + LINES[i].replace("x", eight));
            String line = LINES[i].replace("x", nine);
            Check.faulty(AHEAD[i] + line, 1, AHEAD[i].length() + line.indexOf(nine));
        }
        good("herd zyxwvuts;beast aaaaaaaa of zyxwvuts bell 0 loud 1;beast aaaaaaab of zyxwvuts bell 0 loud 1;"
            + "beside aaaaaaaa aaaaaaab;");
        Check.faulty("herd zyxwvuts;beast a of zyxwvutsr", 1, 25);
        Check.faulty("beasts a of h", 2, 0);
        Check.faulty("stranger s", 2, 10);
        Check.faulty("strangera", 1, 0);
        Check.faulty("herd a", 2, 6);
        good("herd a;herd z;");
        Check.faulty("herd aaaaaaaa;herd aaaaaaaa;", 3, 19);
        good("herd a;herd aa;herd aaa;");
        // as many letters more as would make another word of it again
        Check.faulty("herd aaaaaaaaaherd", 1, 5);
        Check.faulty("xxxxxxxxherd h;", 1, 0);
    }

    private static void numbersOf1To4Digits() {
        String[] fine = {"0", "00", "000", "0000", "9", "09", "009", "0009", "99", "0099"};
        for (String n : fine) {
            good("ear e at " + n + ";");
        }
        Check.faulty("ear e at ;", 2, 9);
        Check.faulty("ear e at 00000;", 1, 9);
        Check.faulty("ear e at 00009;", 1, 9);
        Check.faulty("ear e at 10000;", 1, 9);
        Check.faulty("ear e at 9999;", 4, 9);
        Check.faulty("ear e at 1000;", 4, 9);
        Check.faulty("ear e at 4294967296;", 1, 9);
        Check.faulty("ear e at 18446744073709551616;", 1, 9);
        Check.faulty("ear e at -1;", 1, 9);
        Check.faulty("ear e at +1;", 1, 9);
        Check.faulty("ear e at 1.0;", 1, 10);
    }

    /** Each of the 256 bytes alone where the line's first word must stand. */
    private static void signsThatAreTokens() {
        for (int sign = 0; sign < 256; sign++) {
            String text = HERD + (char) sign;
            boolean blank = sign == 32 || sign == 10;
            boolean letter = sign >= 'a' && sign <= 'z';
            boolean digit = sign >= '0' && sign <= '9';
            if (blank) {
                good(text);
            } else {
                Check.faulty(text, letter || digit || sign == ';' ? 2 : 1, HERD.length());
            }
            if (!letter) {
                Check.faulty("herd x" + (char) sign, blank || digit || sign == ';' ? sign == ';' ? 0 : 2 : 1,
                    sign == ';' ? -1 : blank ? 7 : 6);
            }
        }
    }

    private static void blanksPartThemOrNot() {
        good("herd h;beast a of h bell 0 loud 1;");
        good("herd h;beast a of h bell0 loud1;");
        good("  herd\nh\n;\n\n  beast a\nof\nh\nbell\n0\nloud\n1\n;  \n");
        good("ear e at0;ear f at 1 ;ear g at2\n;");
        Check.faulty("herdh;", 2, 0);
        Check.faulty("he rd h;", 2, 0);
        Check.faulty("herd h h;", 2, 7);
        Check.faulty("ear e at 1 2;", 2, 11);
        Check.faulty("ear e at\t1;", 1, 8);
        Check.faulty("ear e at\u000b1;", 1, 8);
        Check.faulty("ear e at\r\n1;", 1, 8);
        Check.faulty("ear e at\u00a01;", 1, 8);
    }

    private static void eachIsAsLongAsCanBe() {
        Check.faulty(HERD + "beast aof h bell 0 loud 1;", 2, 17);
        Check.faulty(HERD + "beast a ofh bell 0 loud 1;", 2, 15);
        Check.faulty("ear e at 12 3;", 2, 12);
        Check.faulty("ear eat 5;", 2, 8);
        good("ear e at 12;");
        // names that begin with or go on from an own word
        good("herd herdx;herd xherd;ear eary at 0;ear ats at 0;");
        good("herd her;herd hers;herd o;");
    }

    private static void noLetterBehindANumber() {
        Check.faulty("ear e at 5x", 1, 9);
        Check.faulty("ear e at 5a;", 1, 9);
        Check.faulty("ear e at 5z;", 1, 9);
        Check.faulty("ear e at 100x;", 1, 9);
        Check.faulty("ear e at 5 x;", 2, 11);
        Check.faulty("ear e at 5;x", 2, 11);
        Check.faulty("stranger s bell 5loud 1;", 1, 16);
        good("stranger s bell 5\nloud 1;");
        Check.faulty("stranger s bell 5X", 1, 17);
        Check.faulty("5x", 1, 0);
        Check.faulty("5", 2, 0);
    }

    private static void ownWordsAreNoNames() {
        for (String own : OWN) {
            for (int i = 0; i < 4; i++) {
                String line = LINES[i].replace("x", own);
                int at = line.indexOf(' ') + 1;
                Check.faulty(AHEAD[i] + line, 2, AHEAD[i].length() + at);
            }
            Check.faulty(HERD + "beast a of " + own, 2, 18);
            Check.faulty(TWO + "beside " + own, 2, TWO.length() + 7);
            Check.faulty(TWO + "beside a " + own, 2, TWO.length() + 9);
            good("herd " + own.substring(1) + "q;");
        }
        good("herd valley;herd line;herd name;");
        good("ear n at 0;ear tone at 1;");
    }

    /** Each line ended ahead of each of its TOKENS: the FAULT is at the end. */
    private static void eachTokenCutOff() {
        for (int i = 0; i < LINES.length; i++) {
            good(AHEAD[i] + LINES[i]);
            for (int at = LINES[i].indexOf(' '); at > 0; at = LINES[i].indexOf(' ', at + 1)) {
                String cut = AHEAD[i] + LINES[i].substring(0, at);
                Check.faulty(cut, 2, cut.length());
                Check.faulty(cut + " \n", 2, cut.length() + 2);
            }
        }
    }

    private static boolean takes(String due, String other) {
        boolean number = other.charAt(0) <= '9';
        if (other.equals(";")) {
            return due.equals(";");
        }
        return number ? due.charAt(0) >= '0' && due.charAt(0) <= '9' : due.length() == 1 && due.charAt(0) >= 'a';
    }

    /** At the place of each TOKEN one of another sort: FAULT 2 there, whatever comes behind it. */
    private static void eachTokenOfAnotherSort() {
        String[] others = {";", "5", "9999", "q"};
        for (int i = 0; i < LINES.length; i++) {
            String[] tokens = LINES[i].split(" ");
            StringBuilder ahead = new StringBuilder(AHEAD[i]);
            for (String token : tokens) {
                for (String other : others) {
                    if (!takes(token, other)) {
                        Check.faulty(ahead + other + " $", 2, ahead.length());
                    }
                }
                ahead.append(token).append(' ');
            }
        }
    }

    /** At the place of each TOKEN what is none: FAULT 1 there. */
    private static void eachTokenThatIsNone() {
        String[] none = {"$", "Q", "_", "abcdefghi", "12345", "5q", "" + (char) 255, "" + (char) 128, "" + (char) 0};
        for (int i = 0; i < LINES.length; i++) {
            String[] tokens = LINES[i].split(" ");
            StringBuilder ahead = new StringBuilder(AHEAD[i]);
            for (String token : tokens) {
                for (String other : none) {
                    Check.faulty(ahead + other, 1, ahead.length());
                }
                ahead.append(token).append(' ');
            }
            for (String other : none) {
                Check.faulty(ahead + other, 1, ahead.length());
            }
        }
    }

    private static void herdsToldAhead() {
        Check.faulty("beast a of h bell 0 loud 1;herd h;", 5, 11);
        Check.faulty("herd g;beast a of h bell 0 loud 1;herd h;", 5, 18);
        good("herd g;herd h;beast a of h bell 0 loud 1;");
        good("herd g;beast a of g bell 0 loud 1;herd h;beast b of h bell 0 loud 1;");
        Check.faulty("ear h at 0;stranger h bell 0 loud 1;beast a of h", 5, 47);
        Check.faulty("herd hh;beast a of h", 5, 19);
        Check.faulty("herd h;beast a of hh", 5, 18);
    }

    private static void besideBeastsToldAhead() {
        good(TWO + "beside a b;");
        Check.faulty("beside a b;" + TWO, 5, 7);
        Check.faulty(HERD + BEAST + "beside a b;beast b of h bell 0 loud 1;", 5, 44);
        Check.faulty(TWO + "beside h a;", 5, TWO.length() + 7);
        Check.faulty(TWO + "ear e at 0;beside a e;", 5, TWO.length() + 20);
        String stranger = TWO + "stranger s bell 0 loud 1;";
        Check.faulty(stranger + "beside s a;", 5, stranger.length() + 7);
        Check.faulty(stranger + "beside a s;", 5, stranger.length() + 9);
        Check.faulty(TWO + "beside a a;", 3, TWO.length() + 9);
        Check.faulty(TWO + "beside b b;", 3, TWO.length() + 9);
        Check.faulty(TWO + "beside q q;", 5, TWO.length() + 7);
    }

    private static void eachTwoOnce() {
        String three = TWO + "beast c of h bell 0 loud 2;";
        good(three + "beside a b;beside b c;beside c a;");
        String told = three + "beside a b;beside c b;";
        Check.faulty(told + "beside a b;", 3, told.length() + 9);
        Check.faulty(told + "beside b a;", 3, told.length() + 9);
        Check.faulty(told + "beside b c;", 3, told.length() + 9);
        good(told + "beside a c;");
    }

    private static void twentyBesideLines() {
        String full = States.fullText();
        good(full);
        Check.faulty(full + "beside i a;", 2, full.length());
        Check.faulty(full + "beside a b;", 2, full.length());
        Check.faulty(full + "beside", 2, full.length());
        String fewer = full.substring(0, full.lastIndexOf("beside"));
        good(fewer + "beside i h;");
        Check.faulty(fewer + "beside b a;", 3, fewer.length() + 9);
    }

    /** One of a sort too many is told at its first word, so ahead of all that its line has. */
    private static void oneTooManyBeforeAllElse() {
        String full = States.fullText();
        String[] first = {"herd", "beast", "stranger", "ear", "beside"};
        for (String word : first) {
            Check.faulty(full + word, 2, full.length());
            Check.faulty(full + " " + word + " $", 2, full.length() + 1);
            Check.faulty(full + word + " a", 2, full.length());
            Check.faulty(full + word + "$", 2, full.length());
            Check.faulty(full + word + "s", word.length() == 8 ? 1 : 2, full.length());
        }
        oneTooManyAlone();
        // one fewer of each is not too many yet
        good(full.replace("herd i;", "").replace("of i", "of h") + "herd i;");
        good(full.replace("ear d at 0;", "") + "ear d at 0;");
        good(full.replace("stranger s bell 11 loud 99;", "") + "stranger z bell 11 loud 99;");
        String nine = full.substring(0, full.indexOf("beside"));
        String eight = nine.replace("beast i of i bell 0 loud 99;", "");
        good(eight + "beast z of i bell 0 loud 99;");
        Check.faulty(eight + "beast z of i bell 0 loud 99;beast y", 2, nine.length());
    }

    /** The same where no other sort is full. */
    private static void oneTooManyAlone() {
        String beasts = HERD;
        for (char name = 'a'; name < 'j'; name++) {
            beasts += "beast " + name + " of h bell 0 loud 1;";
        }
        String full = States.fullText();
        String besides = beasts + full.substring(full.indexOf("beside"));
        String[] ahead = {"herd a;herd b;herd c;", beasts, "stranger a bell 0 loud 1;stranger b bell 0 loud 1;",
            "ear a at 0;ear b at 0;ear c at 0;ear d at 0;", besides};
        String[] more = {"herd d;", "beast z of h bell 0 loud 1;", "stranger c bell 0 loud 1;", "ear e at 0;", "beside i h;"};
        for (int i = 0; i < more.length; i++) {
            good(ahead[i]);
            Check.faulty(ahead[i] + more[i], 2, ahead[i].length());
            Check.faulty(ahead[i] + "\n" + more[i].substring(0, more[i].indexOf(' ')), 2, ahead[i].length() + 1);
        }
    }

    private static void numbersAtTheirEnds() {
        String[] lines = {"beast x of h bell N loud 4;", "beast x of h bell 3 loud N;", "stranger x bell N loud 4;",
            "stranger x bell 3 loud N;", "ear x at N;"};
        int[] least = {0, 1, 0, 1, 0};
        int[] most = {11, 99, 11, 99, 99};
        for (int i = 0; i < lines.length; i++) {
            String ahead = i < 2 ? HERD : "";
            int at = ahead.length() + lines[i].indexOf('N');
            good(ahead + lines[i].replace("N", "" + least[i]));
            good(ahead + lines[i].replace("N", "" + most[i]));
            good(ahead + lines[i].replace("N", String.format("%04d", most[i])));
            Check.faulty(ahead + lines[i].replace("N", "" + (most[i] + 1)), 4, at);
            Check.faulty(ahead + lines[i].replace("N", "9999"), 4, at);
            if (least[i] == 1) {
                Check.faulty(ahead + lines[i].replace("N", "0"), 4, at);
                Check.faulty(ahead + lines[i].replace("N", "0000"), 4, at);
            }
        }
    }

    /** A NAME is told already only by its own sort; BEASTS and STRANGERS are one. */
    private static void namesOfTheirOwnSort() {
        good("herd x;beast x of x bell 0 loud 1;ear x at 0;");
        good("ear x at 0;stranger x bell 0 loud 1;herd x;");
        Check.faulty("herd x;herd x;", 3, 12);
        Check.faulty("herd x;herd y;herd x;", 3, 19);
        Check.faulty("ear x at 0;ear x at 0;", 3, 15);
        Check.faulty(HERD + BEAST + "beast a of h bell 0 loud 1;", 3, 41);
        Check.faulty(HERD + BEAST + "stranger a bell 0 loud 1;", 3, 44);
        Check.faulty("stranger a bell 0 loud 1;" + HERD + BEAST, 3, 38);
        Check.faulty("stranger a bell 0 loud 1;stranger a bell 0 loud 1;", 3, 34);
    }

    private static void numberedAsTold() {
        ChordHerds x = Check.told("stranger s bell 9 loud 9;herd h;ear e at 7;beast a of h bell 1 loud 1;herd g;"
            + "stranger t bell 8 loud 8;ear f at 9;beast b of g bell 2 loud 2;", 4);
        int[] tones = {9, 1, 8, 2};
        int[] herds = {-1, 0, -1, 1};
        for (int bell = 0; bell < 4; bell++) {
            Check.due("TONE of BELL " + bell, x.bell(bell, 0), tones[bell]);
            Check.due("HERD of BELL " + bell, x.bell(bell, 2), herds[bell]);
        }
        x.comes(0, true);
        Check.due("the first EAR", x.hear(0, 9), 2);
        Check.due("the second EAR", x.hear(1, 9), 0);
        Check.due("BEASTS", x.about(1), 2);
        Check.due("STRANGERS", x.about(2), 2);
    }

    private static void placeOfTheEnd() {
        Check.faulty("herd", 2, 4);
        Check.faulty("herd ", 2, 5);
        Check.faulty("herd h", 2, 6);
        Check.faulty("herd h\n\n", 2, 8);
        Check.faulty(HERD + "ear", 2, 10);
        ChordHerds x = new ChordHerds();
        Check.tape(x, "herd h;ear e at 5");
        x.end(12);
        Check.due("a text cut off", x.valley(), -1);
        Check.due("its FAULT", x.fault(0), 2);
        Check.due("at its own end", x.fault(1), 12);
    }

    private static void theFirstByItsPlace() {
        Check.faulty("herd h;herd h;$", 3, 12);
        Check.faulty("herd h;$herd h;herd h;", 1, 7);
        Check.faulty("beast a of h bell 99 loud 0;", 5, 11);
        Check.faulty(HERD + "beast a of h bell 99 loud 0;", 4, 25);
        Check.faulty(HERD + "beast a of h bell 11 loud 0", 4, 33);
        Check.faulty(HERD + "beast a of h bell 11 loud 1", 2, 34);
        Check.faulty("ear e at 100x;ear e", 1, 9);
        Check.faulty("ear e at 100 x;ear e", 4, 9);
    }

    private static void atOnePlaceTheLeast() {
        Check.faulty("herd h;12345", 1, 7);
        Check.faulty("herd 12345", 1, 5);
        Check.faulty("ear e at abcdefghi", 1, 9);
        Check.faulty("stranger s bell 99999", 1, 16);
        Check.faulty("stranger s bell 99 loud", 4, 16);
        Check.faulty("stranger s bell 1 99", 2, 18);
        Check.faulty("herd herd;herd herd;", 2, 5);
        String full = States.fullText();
        Check.faulty(full + "$", 1, full.length());
        Check.faulty(full + "abcdefghi", 1, full.length());
    }
}
