import java.util.Random;

/** Runs of calls by chance (always the same ones), each answer against the Plain one. */
public final class RandomRunsTest {
    private static final int[] EDGES = {Integer.MIN_VALUE, Integer.MAX_VALUE, -2, -1, 0, 1, 2, 3, 11, 12, 20, 21, 31, 32,
        95, 96, 99, 100, 999, 1000, 1001, 1500, 4095, 4096};
    private final Random chance;
    private final ChordHerds x = new ChordHerds();
    private final Plain plain = new Plain();
    private int bells = 0;
    private int ears = 0;
    private int time = 0;

    private RandomRunsTest(long seed) {
        chance = new Random(seed);
    }

    public static void main(String[] args) {
        int runs = args.length > 0 ? Integer.parseInt(args[0]) : 400;
        for (int run = 0; run < runs; run++) {
            new RandomRunsTest(run).go(run);
        }
        for (int run = 0; run < runs / 50; run++) {
            new RandomRunsTest(run).setsOfEleven("sets of eleven " + run + " ");
        }
        Check.finish("RandomRunsTest");
    }

    private void go(int run) {
        String at = "run " + run + " ";
        for (int i = 0; i < 60; i++) {
            if (i == 0 || chance.nextInt(40) == 0) {
                tell(at + i + " ");
            }
            call(at + i + " ");
        }
    }

    /** As many BELLS as can be, of few TONES, with wide and narrow SOUNDS: then sets are many. */
    private void setsOfEleven(String at) {
        int tones = 1 + chance.nextInt(3);
        StringBuilder text = new StringBuilder("herd h;ear e at 0;ear f at 60;");
        for (int i = 0; i < 11; i++) {
            text.append(i % 5 == 3 ? "stranger " : "beast ").append((char) ('a' + i)).append(i % 5 == 3 ? "" : " of h");
            text.append(" bell ").append(chance.nextInt(tones)).append(" loud ").append(1 + chance.nextInt(99)).append(';');
        }
        tell(at, text.toString());
        for (int i = 0; i <= tones; i++) {
            int ear = chance.nextInt(2);
            int least = chance.nextInt(chance.nextBoolean() ? 3 : 200);
            int most = Math.min(999, least + chance.nextInt(chance.nextBoolean() ? 20 : 900));
            Check.due(at + "sound", x.sound(0, ear, i % 3, least, most), plain.sound(0, ear, i % 3, least, most));
        }
        int wind = chance.nextInt(6);
        for (int what = 0; what < 6; what++) {
            Check.due(at + what, x.sets(0, wind, what, 0), plain.sets(0, wind, what, 0));
        }
    }

    private int up(int most) {
        return chance.nextInt(30) == 0 ? EDGES[chance.nextInt(EDGES.length)] : chance.nextInt(most + 1);
    }

    private int some(int many) {
        return up(many == 0 ? 0 : many - 1);
    }

    // ---- a text, now and then with something wrong in it

    private String name(char from, int many) {
        return String.valueOf((char) (from + chance.nextInt(Math.max(1, many))));
    }

    private String text() {
        StringBuilder text = new StringBuilder();
        int herds = 1 + chance.nextInt(3);
        for (int i = 0; i < herds; i++) {
            text.append("herd ").append((char) ('h' + i)).append(';');
        }
        int beasts = chance.nextInt(20) == 0 ? 7 + chance.nextInt(3) : chance.nextInt(7);
        int strangers = chance.nextInt(3);
        int tones = 1 + chance.nextInt(12);
        int louds = chance.nextInt(3) == 0 ? 99 : 12;
        int left = beasts + strangers;
        for (int i = 0; left > 0; i++) {
            String tail = "bell " + chance.nextInt(tones) + " loud " + (1 + chance.nextInt(louds)) + ";\n";
            if (strangers > 0 && chance.nextInt(left) < strangers) {
                text.append("stranger ").append((char) ('a' + i)).append(' ').append(tail);
                strangers--;
            } else {
                text.append("beast ").append((char) ('a' + i)).append(" of ").append(name('h', herds));
                text.append(' ').append(tail);
            }
            left--;
        }
        int ears = chance.nextInt(5);
        for (int i = 0; i < ears; i++) {
            text.append("ear ").append((char) ('p' + i)).append(" at ").append(chance.nextInt(chance.nextBoolean() ? 15 : 100)).append("; ");
        }
        for (int i = chance.nextInt(5); i > 0 && beasts > 1; i--) {
            text.append("beside ").append(name('a', beasts)).append(' ').append(name('a', beasts)).append(';');
        }
        return text.toString();
    }

    private String spoiled(String text) {
        StringBuilder s = new StringBuilder(text);
        String[] bits = {";", " ", "\n", "herd ", "beast ", "of ", "bell ", "loud ", "stranger ", "ear ", "at ", "beside ",
            "a", "h", "1", "0", "99", "100", "12", "$", "A", "abcdefgh", "12345", "herd z;", "ear z at 5;", "" + (char) 200};
        for (int i = 1 + chance.nextInt(2); i > 0 && s.length() > 0; i--) {
            int at = chance.nextInt(s.length());
            switch (chance.nextInt(4)) {
                case 0 -> s.insert(at, bits[chance.nextInt(bits.length)]);
                case 1 -> s.delete(at, Math.min(s.length(), at + 1 + chance.nextInt(4)));
                case 2 -> s.setLength(at);
                default -> s.insert(at, s.substring(at, Math.min(s.length(), at + chance.nextInt(60))));
            }
        }
        s.setLength(Math.min(s.length(), 1500));
        return s.toString();
    }

    private void tell(String at) {
        int tries = chance.nextInt(4) == 0 ? 3 : 1;
        for (int i = 0; i < tries; i++) {
            String text = i + 1 < tries || chance.nextInt(3) == 0 ? spoiled(text()) : text();
            tell(at, text);
        }
        bells = plain.about(1) + plain.about(2);
        ears = plain.about(3);
    }

    private void tell(String at, String text) {
        Check.due(at + "end(0)", x.end(0), plain.end(0));
        byte[] bytes = new byte[(text.length() + 19) / 20 * 20];
        for (int b = 0; b < text.length(); b++) {
            bytes[b] = (byte) text.charAt(b);
        }
        for (int b = 0; b < bytes.length; b += 20) {
            int[] n = new int[5];
            for (int j = 0; j < 20; j++) {
                n[j / 4] = n[j / 4] << 8 | bytes[b + j] & 255;
            }
            Check.due(at + "feed", x.feed(n[0], n[1], n[2], n[3], n[4]), plain.feed(n));
        }
        Check.due(at + "end", x.end(text.length()), plain.end(text.length()));
        Check.due(at + "valley of " + text, x.valley(), plain.valley());
        Check.due(at + "fault(0) of " + text, x.fault(0), plain.fault(0));
        Check.due(at + "fault(1) of " + text, x.fault(1), plain.fault(1));
    }

    // ---- any call

    private void call(String at) {
        switch (chance.nextInt(6)) {
            case 0 -> inEarnest(at);
            case 1, 2 -> entry(at);
            case 3, 4 -> search(at);
            default -> herdsOnly(at);
        }
        int what = up(10);
        Check.due(at + "about(" + what + ")", x.about(what), plain.about(what));
    }

    private void inEarnest(String at) {
        int a = some(bells);
        int b = up(5);
        boolean is = chance.nextBoolean();
        int e = some(ears);
        int place = up(chance.nextBoolean() ? 15 : 99);
        switch (chance.nextInt(8)) {
            case 0 -> Check.due(at + "comes", x.comes(a, is), plain.comes(a, is));
            case 1 -> Check.due(at + "stand", x.stand(a, is), plain.stand(a, is));
            case 2 -> Check.due(at + "walk", x.walk(place, b), plain.walk(place, b));
            case 3 -> Check.due(at + "crack", x.crack(a, b), plain.crack(a, b));
            case 4 -> {
                int by = up(20);
                Check.due(at + "years", x.years(by), plain.years(by));
            }
            case 5 -> Check.due(at + "image", x.image(b), plain.image(b));
            case 6 -> Check.due(at + "back", x.back(b), plain.back(b));
            default -> {
                int t = up(11);
                Check.due(at + "bell", x.bell(a, b), plain.bell(a, b));
                Check.due(at + "hear", x.hear(e, t), plain.hear(e, t));
                Check.due(at + "chord", x.chord(e), plain.chord(e));
            }
        }
    }

    private void entry(String at) {
        int quarter = up(chance.nextInt(4) == 0 ? 95 : 2);
        int ear = some(ears);
        int tone = up(chance.nextInt(3) == 0 ? 11 : 2);
        switch (chance.nextInt(7)) {
            case 6 -> noteAll(at, quarter);
            case 0, 1 -> {
                int least = up(20);
                int most = least + up(15);
                Check.due(at + "sound", x.sound(quarter, ear, tone, least, most), plain.sound(quarter, ear, tone, least, most));
            }
            case 2 -> {
                int by = up(8);
                Check.due(at + "note", x.note(quarter, ear, tone, by), plain.note(quarter, ear, tone, by));
            }
            case 3 -> evening(at);
            case 4 -> {
                int e = some(plain.about(7));
                Check.due(at + "untell", x.untell(e), plain.untell(e));
            }
            default -> {
                int by = up(2);
                Check.due(at + "later", x.later(by), plain.later(by));
                time = plain.about(8);
            }
        }
    }

    /** All that is heard somewhere: this leaves few PLACES and sets. */
    private void noteAll(String at, int quarter) {
        int by = chance.nextInt(3);
        for (int ear = 0; ear < ears; ear++) {
            for (int tone = 0; tone < 12; tone++) {
                if (plain.hear(ear, tone) > 0) {
                    Check.due(at + "note", x.note(quarter, ear, tone, by), plain.note(quarter, ear, tone, by));
                }
            }
        }
    }

    /** Mostly such as some CREEPS give, so that it can be. */
    private void evening(String at) {
        int year = up(20);
        int tones = 0;
        Random like = new Random(bells * 7L + chance.nextInt(3));
        for (int b = 0; b < bells; b++) {
            if (plain.bell(b, 2) >= 0) {
                int told = Math.floorMod(plain.bell(b, 0) + plain.bell(b, 3) * plain.about(6), 12);
                tones |= 1 << Math.floorMod(told - like.nextInt(3) * Math.floorMod(year, 21), 12);
            }
        }
        int bits = chance.nextInt(8) == 0 ? up(4095) : tones;
        Check.due(at + "evening", x.evening(year, bits), plain.evening(year, bits));
    }

    private void search(String at) {
        int quarter = up(2);
        int wind = up(chance.nextInt(3) == 0 ? 20 : 2);
        int k = time - chance.nextInt(4) + 1;
        int place = up(15);
        if (chance.nextInt(3) == 0) {
            int[] s = {some(ears), up(15), some(ears), up(15), quarter};
            Check.due(at + "spring", x.spring(s[0], s[1], s[2], s[3], s[4]), plain.spring(s[0], s[1], s[2], s[3], s[4]));
        }
        boolean all = chance.nextBoolean();
        int which = chance.nextInt(3);
        int stranger = some(bells);
        for (int i = 0; i <= (all ? 5 : 0); i++) {
            int what = all ? i : up(5);
            switch (which) {
                case 0 -> Check.due(at + "sets " + what, x.sets(quarter, wind, what, k), plain.sets(quarter, wind, what, k));
                case 1 -> Check.due(at + "parted " + what, x.parted(wind, what, k), plain.parted(wind, what, k));
                default -> Check.due(at + "came " + what, x.came(stranger, place, wind, what, k),
                    plain.came(stranger, place, wind, what, k));
            }
        }
    }

    private void herdsOnly(String at) {
        int k = time - chance.nextInt(4) + 1;
        int m = 1 + up(1);
        int loud = up(20);
        int neighbours = chance.nextInt(1 << bells);
        if (chance.nextInt(5) != 0) {
            for (int b = 0; b < bells; b++) {
                neighbours &= plain.bell(b, 2) < 0 ? ~(1 << b) : -1;
            }
        }
        switch (chance.nextInt(4)) {
            case 0 -> Check.due(at + "cracked", x.cracked(k), plain.cracked(k));
            case 1 -> Check.due(at + "first", x.first(k), plain.first(k));
            case 2 -> Check.due(at + "dealt " + m, x.dealt(m), plain.dealt(m));
            default -> Check.due(at + "fresh", x.fresh(loud, neighbours), plain.fresh(loud, neighbours));
        }
        for (int i = -1; i < 10; i++) {
            Check.due(at + "lies(" + i + ")", x.lies(i), plain.lies(i));
        }
    }
}
