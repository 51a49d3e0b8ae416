/** Objects in states that edges are looked at from; each is made anew, within few calls. */
final class States {
    /** BELLS 1 and 4 are STRANGERS. */
    static final String SOME_TEXT = "herd h;herd g;"
        + "beast a of h bell 0 loud 10;stranger s bell 0 loud 7;beast b of h bell 0 loud 6;"
        + "beast c of g bell 4 loud 8;stranger t bell 4 loud 3;ear e at 0;ear f at 10;ear z at 50;beside a c;";

    private States() {
    }

    /** Some of each, some ENTRIES and BOXES, a row of 3, a spring, a FAULT behind it and 14 bytes on the TAPE. */
    static ChordHerds some() {
        ChordHerds x = Check.told(SOME_TEXT, 5);
        x.later(5);
        x.comes(1, true);
        x.stand(0, true);
        x.walk(3, 1);
        x.crack(2, 1);
        x.years(3);
        x.image(1);
        x.walk(4, 2);
        x.sound(0, 0, 0, 1, 20);
        x.sound(1, 1, 4, 0, 3);
        x.evening(1, 1 | 1 << 11 | 1 << 4);
        x.later(2);
        x.untell(1);
        x.spring(0, 0, 1, 10, 0);
        x.cracked(7);
        Check.tape(x, "herd q;herd q;");
        x.valley();
        Check.tape(x, "ear q at 7;ear");
        return x;
    }

    static String fullText() {
        StringBuilder text = new StringBuilder("herd h;herd g;herd i;");
        for (int i = 0; i < 9; i++) {
            text.append("beast ").append((char) ('a' + i)).append(" of ").append("hgi".charAt(i % 3));
            text.append(" bell ").append(i % 4).append(" loud ").append(91 + i).append(';');
        }
        text.append("stranger s bell 11 loud 99;stranger t bell 0 loud 1;");
        text.append("ear a at 0;ear b at 99;ear c at 1;ear d at 0;");
        int left = 20;
        for (char a = 'a'; a < 'j'; a++) {
            for (char b = 'a'; b < a && left > 0; b++) {
                text.append("beside ").append(a).append(' ').append(b).append(';');
                left--;
            }
        }
        return text.toString();
    }

    /** All that can be full: each sort, ENTRIES, BOXES, the TAPE. */
    static ChordHerds full() {
        ChordHerds x = Check.told(fullText(), 11);
        x.image(0);
        x.comes(9, true);
        x.image(1);
        x.walk(99, 20);
        x.image(2);
        x.spring(0, 0, 1, 99, 95);
        for (int i = 0; i < 40; i++) {
            int got = i % 3 == 0 ? x.evening(i % 21, i) : x.sound(95 * (i & 1), i & 3, i % 12, 0, 999);
            Check.due("the number of an ENTRY", got, i);
        }
        for (int i = 0; i < 75; i++) {
            x.feed(0x20202020, 0x0a0a0a0a, 0x20202020, 0x20202020, 0x20202020);
        }
        return x;
    }

    /** The last TIME, the last YEAR. */
    static ChordHerds late() {
        ChordHerds x = Check.told("herd h;beast a of h bell 1 loud 10;ear e at 0;", 1);
        x.crack(0, 2);
        for (int i = 0; i < 100; i++) {
            x.later(1000);
        }
        for (int i = 0; i < 10; i++) {
            x.years(20);
        }
        x.sound(0, 0, 0, 1, 1);
        return x;
    }
}
