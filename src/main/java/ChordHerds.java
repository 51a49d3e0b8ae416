import java.util.Arrays;

/**
 * Herds known by the chords of their bells. Words in capitals are the document's.
 * All rows are made together with the object and used again: no call makes a new one,
 * since all calls of a run share one room.
 */
public final class ChordHerds {
    public static final int NONE = -1;

    /** What a call answers where NONE would be an answer of its own, and where it is SPENT. */
    private static final int REFUSED = -2;

    private static final int TAPE_MOST = 1500;
    private static final int FEED_BYTES = 20;
    private static final int WORD_MOST = 8;
    private static final int DIGITS_MOST = 4;
    private static final int HERDS_MOST = 3;
    private static final int BEASTS_MOST = 9;
    private static final int STRANGERS_MOST = 2;
    private static final int BELLS_MOST = BEASTS_MOST + STRANGERS_MOST;
    private static final int EARS_MOST = 4;
    private static final int BESIDES_MOST = 20;
    private static final int SETS_MOST = 1 << BELLS_MOST;
    private static final int WORD_BITS = 32;
    private static final int TONES = 12;
    private static final int ALL_TONES = (1 << TONES) - 1;
    private static final int PLACE_MOST = 99;
    private static final int WIND_MOST = 20;
    private static final int LOUD_MOST = 99;
    private static final int HEARD_MOST = 999;
    private static final int SOME_MOST = 99;
    private static final int CREEP_MOST = 2;
    private static final int YEARS_MOST = 20;
    private static final int YEAR_MOST = 200;
    private static final int EVENING_YEAR_MOST = 20;
    private static final int QUARTERS = 96;
    private static final int ENTRIES_MOST = 40;
    private static final int LATER_MOST = 1000;
    private static final int TIME_MOST = 100000;
    private static final int BOXES = 3;
    /** With more BEASTS than these a search is SPENT. */
    private static final int SEARCH_MOST = 8;

    private final byte[] tape = new byte[TAPE_MOST];
    private int taped;
    private final Teller teller = new Teller(tape);
    private Valley land = new Valley();
    /** A text is told here first, so that a FAULT leaves the land as it is. */
    private Valley draft = new Valley();
    private final Earnest now = new Earnest();
    private final Earnest[] boxes = new Earnest[BOXES];
    private int kept;
    private final Entries entries = new Entries();
    private int time;
    private final int[] row = new int[SEARCH_MOST];
    /** A row of no BEASTS answers like none, so its length alone says whether one lies there. */
    private int rowLength;
    private final Bounds bounds = new Bounds();
    private final Sets search = new Sets();
    private final Parting parting = new Parting();
    private final Creeps creeps = new Creeps();
    private final Dealer dealer = new Dealer();

    public ChordHerds() {
        for (int box = 0; box < BOXES; box++) {
            boxes[box] = new Earnest();
        }
    }

    public int feed(int a, int b, int c, int d, int e) {
        if (taped > TAPE_MOST - FEED_BYTES) {
            return NONE;
        }
        tapeFour(a);
        tapeFour(b);
        tapeFour(c);
        tapeFour(d);
        tapeFour(e);
        return taped;
    }

    private void tapeFour(int bytes) {
        for (int shift = 24; shift >= 0 && taped < TAPE_MOST; shift -= 8) {
            tape[taped] = (byte) (bytes >> shift);
            taped++;
        }
    }

    public int end(int n) {
        if (!within(n, 0, taped)) {
            return NONE;
        }
        taped = n;
        return n;
    }

    public int valley() {
        boolean good = teller.tell(taped, draft);
        taped = 0;
        if (!good) {
            return NONE;
        }
        Valley old = land;
        land = draft;
        draft = old;
        now.begin(land);
        entries.many = 0;
        rowLength = 0;
        kept = 0;
        parting.told = false;
        return land.bells;
    }

    public int fault(int what) {
        switch (what) {
            case 0: return teller.fault;
            case 1: return teller.faultPlace;
            default: return NONE;
        }
    }

    public int bell(int bell, int what) {
        if (!land.hasBell(bell)) {
            return REFUSED;
        }
        switch (what) {
            case 0: return now.toneOf(land, bell);
            case 1: return land.louds[bell];
            case 2: return land.herdOf[bell];
            case 3: return now.creeps[bell];
            case 4: return now.there >> bell & 1;
            case 5: return now.stands >> bell & 1;
            default: return REFUSED;
        }
    }

    public int hear(int ear, int tone) {
        if (!land.hasEar(ear) || !within(tone, 0, TONES - 1)) {
            return NONE;
        }
        return now.loudness(land, ear, tone);
    }

    public int chord(int ear) {
        if (!land.hasEar(ear)) {
            return NONE;
        }
        int loud = 0;
        for (int tone = 0; tone < TONES; tone++) {
            if (now.loudness(land, ear, tone) > 0) {
                loud |= 1 << tone;
            }
        }
        return loud;
    }

    public boolean comes(int bell, boolean is) {
        if (!land.hasBell(bell) || now.isThere(bell) == is) {
            return false;
        }
        now.there ^= 1 << bell;
        now.stands &= now.there;
        return true;
    }

    public boolean stand(int bell, boolean is) {
        if (!land.hasBell(bell) || !now.isThere(bell) || now.isStanding(bell) == is) {
            return false;
        }
        now.stands ^= 1 << bell;
        return true;
    }

    public int walk(int place, int wind) {
        if (!isPlace(place) || !isWind(wind)) {
            return NONE;
        }
        int was = now.place;
        now.place = place;
        now.wind = wind;
        return was;
    }

    public int crack(int bell, int creep) {
        if (!land.hasBell(bell) || !within(creep, 0, CREEP_MOST)) {
            return NONE;
        }
        int was = now.creeps[bell];
        now.creeps[bell] = creep;
        return was;
    }

    public int years(int by) {
        if (!within(by, 0, YEARS_MOST) || now.year + by > YEAR_MOST) {
            return NONE;
        }
        now.year += by;
        return now.year;
    }

    public int sound(int quarter, int ear, int tone, int least, int most) {
        if (!isQuarter(quarter) || !land.hasEar(ear) || !within(tone, 0, TONES - 1)) {
            return NONE;
        }
        if (!within(least, 0, HEARD_MOST) || !within(most, least, HEARD_MOST)) {
            return NONE;
        }
        return entries.add(quarter, ear, tone, least, most, time);
    }

    public int evening(int year, int tones) {
        if (!within(year, 0, EVENING_YEAR_MOST) || !within(tones, 0, ALL_TONES)) {
            return NONE;
        }
        return entries.add(year, NONE, tones, 0, 0, time);
    }

    public int note(int quarter, int ear, int tone, int some) {
        int loud = hear(ear, tone);
        if (loud == NONE || !within(some, 0, SOME_MOST)) {
            return NONE;
        }
        return sound(quarter, ear, tone, Math.max(0, loud - some), loud + some);
    }

    public boolean untell(int entry) {
        if (!within(entry, 0, entries.many - 1) || entries.untold[entry] != NONE) {
            return false;
        }
        entries.untold[entry] = time;
        return true;
    }

    public int later(int by) {
        if (!within(by, 0, LATER_MOST) || time + by > TIME_MOST) {
            return NONE;
        }
        time += by;
        return time;
    }

    public int sets(int quarter, int wind, int what, int k) {
        if (!isQuarter(quarter) || !isWind(wind) || !within(what, 0, 5)) {
            return REFUSED;
        }
        bounds.gather(entries, quarter, k);
        search.seek(land, bounds, wind);
        switch (what) {
            case 0: return search.many;
            case 1: return search.sure;
            case 2: return search.quiet;
            case 3: return search.places;
            case 4: return search.leastPlace;
            default: return search.greatestPlace;
        }
    }

    public boolean spring(int earA, int placeA, int earB, int placeB, int quarter) {
        if (!land.hasEar(earA) || !land.hasEar(earB) || earA == earB) {
            return false;
        }
        if (!isPlace(placeA) || !isPlace(placeB) || !isQuarter(quarter)) {
            return false;
        }
        parting.told = true;
        parting.earA = earA;
        parting.placeA = placeA;
        parting.earB = earB;
        parting.placeB = placeB;
        parting.quarter = quarter;
        return true;
    }

    public int parted(int wind, int what, int k) {
        if (!parting.told || !isWind(wind) || !within(what, 0, 4)) {
            return REFUSED;
        }
        bounds.gather(entries, parting.quarter, k);
        parting.seek(land, bounds, wind);
        switch (what) {
            case 0: return parting.many;
            case 1: return parting.sureA;
            case 2: return parting.sureB;
            case 3: return parting.mixed;
            default: return parting.mixedSet;
        }
    }

    public int came(int stranger, int place, int wind, int what, int k) {
        if (!land.hasBell(stranger) || land.herdOf[stranger] != NONE) {
            return REFUSED;
        }
        if (!isPlace(place) || !isWind(wind) || !within(what, 0, 2)) {
            return REFUSED;
        }
        int from = 0;
        int to = QUARTERS;
        for (int entry = 0; entry < entries.many; entry++) {
            if (entries.isSound(entry) && entries.counts(entry, k)) {
                if (!isSoWith(land.beasts | 1 << stranger, entry, place, wind)) {
                    from = Math.max(from, entries.when[entry] + 1);
                }
                if (!isSoWith(land.beasts, entry, place, wind)) {
                    to = Math.min(to, entries.when[entry]);
                }
            }
        }
        if (from > to) {
            return what == 0 ? 0 : NONE;
        }
        switch (what) {
            case 0: return to - from + 1;
            case 1: return from;
            default: return to;
        }
    }

    private boolean isSoWith(int ringing, int entry, int place, int wind) {
        int loud = land.loudness(ringing, entries.tones[entry], entries.ear[entry], place, wind);
        return within(loud, entries.least[entry], entries.most[entry]);
    }

    public int cracked(int k) {
        rowLength = 0;
        if (land.beastsMany > SEARCH_MOST) {
            return REFUSED;
        }
        creeps.gather(land, entries, k);
        int together = creeps.leastTogether(row);
        rowLength = together == NONE ? 0 : land.beastsMany;
        return together;
    }

    public int first(int k) {
        if (land.beastsMany > SEARCH_MOST) {
            return REFUSED;
        }
        creeps.gather(land, entries, k);
        return creeps.firstThatCant();
    }

    public int dealt(int m) {
        rowLength = 0;
        if (!within(m, 1, 2)) {
            return NONE;
        }
        if (land.beastsMany > SEARCH_MOST) {
            return REFUSED;
        }
        rowLength = land.beastsMany;
        return dealer.deal(land, m, row);
    }

    public int lies(int i) {
        return within(i, 0, rowLength - 1) ? row[i] : NONE;
    }

    public int fresh(int loud, int neighbours) {
        if (!within(loud, 1, LOUD_MOST) || (neighbours & ~land.beasts) != 0) {
            return REFUSED;
        }
        if (!land.eachIsKnown()) {
            return NONE;
        }
        int near = land.withThoseBeside(neighbours);
        int best = NONE;
        int farthest = NONE;
        for (int tone = 0; tone < TONES; tone++) {
            int far = land.farFrom(tone, near);
            if (far > farthest && !land.hasBeast(tone, loud)) {
                best = tone;
                farthest = far;
            }
        }
        return best;
    }

    public int image(int box) {
        if (!within(box, 0, BOXES - 1)) {
            return NONE;
        }
        boxes[box].copy(now);
        kept |= 1 << box;
        return now.year;
    }

    public int back(int box) {
        if (!within(box, 0, BOXES - 1) || (kept >> box & 1) == 0) {
            return NONE;
        }
        now.copy(boxes[box]);
        return now.year;
    }

    public int about(int what) {
        switch (what) {
            case 0: return land.herds;
            case 1: return land.beastsMany;
            case 2: return land.bells - land.beastsMany;
            case 3: return land.ears;
            case 4: return now.place;
            case 5: return now.wind;
            case 6: return now.year;
            case 7: return entries.many;
            case 8: return time;
            case 9: return taped;
            case 10: return rowLength;
            default: return NONE;
        }
    }

    private static boolean within(int number, int least, int most) {
        return number >= least && number <= most;
    }

    private static boolean isPlace(int place) {
        return within(place, 0, PLACE_MOST);
    }

    private static boolean isWind(int wind) {
        return within(wind, 0, WIND_MOST);
    }

    private static boolean isQuarter(int quarter) {
        return within(quarter, 0, QUARTERS - 1);
    }

    /** What a text told: HERDS, BELLS, EARS and who is beside whom. */
    private static final class Valley {
        int herds;
        final long[] herdNames = new long[HERDS_MOST];
        final int[] herdBeasts = new int[HERDS_MOST];
        int bells;
        final long[] bellNames = new long[BELLS_MOST];
        final int[] tones = new int[BELLS_MOST];
        final int[] louds = new int[BELLS_MOST];
        /** NONE of a STRANGER. */
        final int[] herdOf = new int[BELLS_MOST];
        /** BELLS as bits that are BEASTS. */
        int beasts;
        int beastsMany;
        final int[] beside = new int[BELLS_MOST];
        int besides;
        int ears;
        final long[] earNames = new long[EARS_MOST];
        final int[] earPlaces = new int[EARS_MOST];

        void clear() {
            herds = 0;
            bells = 0;
            beasts = 0;
            beastsMany = 0;
            besides = 0;
            ears = 0;
        }

        void addHerd(long name) {
            herdNames[herds] = name;
            herdBeasts[herds] = 0;
            herds++;
        }

        void addBell(long name, int herd, int tone, int loud) {
            bellNames[bells] = name;
            herdOf[bells] = herd;
            tones[bells] = tone;
            louds[bells] = loud;
            beside[bells] = 0;
            if (herd != NONE) {
                beasts |= 1 << bells;
                herdBeasts[herd] |= 1 << bells;
                beastsMany++;
            }
            bells++;
        }

        void addEar(long name, int place) {
            earNames[ears] = name;
            earPlaces[ears] = place;
            ears++;
        }

        void addBeside(int one, int other) {
            beside[one] |= 1 << other;
            beside[other] |= 1 << one;
            besides++;
        }

        boolean hasBell(int bell) {
            return within(bell, 0, bells - 1);
        }

        boolean hasEar(int ear) {
            return within(ear, 0, ears - 1);
        }

        boolean isBeast(int bell) {
            return (beasts >> bell & 1) == 1;
        }

        int loudAt(int bell, int ear, int place, int wind) {
            int far = Math.abs(place - earPlaces[ear]);
            return Math.max(0, louds[bell] - far - wind);
        }

        /** How LOUD those that ring are together, of a TONE as told. */
        int loudness(int ringing, int tone, int ear, int place, int wind) {
            int together = 0;
            for (int bell = 0; bell < bells; bell++) {
                if ((ringing >> bell & 1) == 1 && tones[bell] == tone) {
                    together += loudAt(bell, ear, place, wind);
                }
            }
            return together;
        }

        boolean hasBeast(int tone, int loud) {
            for (int bell = 0; bell < bells; bell++) {
                if (isBeast(bell) && tones[bell] == tone && louds[bell] == loud) {
                    return true;
                }
            }
            return false;
        }

        /** Whether any one BEAST that is missing is known by what it takes from the CHORD. */
        boolean eachIsKnown() {
            for (int bell = 0; bell < bells; bell++) {
                for (int other = 0; other < bell; other++) {
                    boolean two = isBeast(bell) && isBeast(other);
                    if (two && tones[bell] == tones[other] && louds[bell] == louds[other]) {
                        return false;
                    }
                }
            }
            return true;
        }

        int withThoseBeside(int some) {
            int all = some;
            for (int bell = 0; bell < bells; bell++) {
                if ((some >> bell & 1) == 1) {
                    all |= beside[bell];
                }
            }
            return all;
        }

        int farFrom(int tone, int some) {
            int nearest = TONES;
            for (int bell = 0; bell < bells; bell++) {
                if ((some >> bell & 1) == 1) {
                    int apart = Math.abs(tone - tones[bell]);
                    nearest = Math.min(nearest, Math.min(apart, TONES - apart));
                }
            }
            return nearest;
        }
    }

    /** The TOKENS of a text, up to its end, to the first that is none, or to more than can stand there. */
    private static final class Reader {
        static final int END = 0;
        static final int BAD = 1;
        static final int WORD = 2;
        static final int NUMBER = 3;
        static final int STOP = 4;

        /** Those of all lines that a VALLEY can have; one more is its END, or can't stand there. */
        static final int TOKENS_MOST =
            3 * HERDS_MOST + 9 * BEASTS_MOST + 7 * STRANGERS_MOST + 5 * EARS_MOST + 4 * BESIDES_MOST + 1;

        int many;
        final int[] sorts = new int[TOKENS_MOST];
        final int[] places = new int[TOKENS_MOST];
        /** Words as their bytes, the first highest: eight letters just fill a long. */
        final long[] values = new long[TOKENS_MOST];
        private final byte[] text;
        private int length;
        private int at;

        Reader(byte[] text) {
            this.text = text;
        }

        void read(int bytes) {
            length = Math.min(bytes, text.length);
            at = 0;
            many = 0;
            int sort = WORD;
            while (sort != END && sort != BAD && many < TOKENS_MOST) {
                skipBlanks();
                places[many] = at;
                sort = readToken();
                sorts[many] = sort;
                many++;
            }
        }

        private void skipBlanks() {
            while (at < length && (text[at] == 32 || text[at] == 10)) {
                at++;
            }
        }

        private int readToken() {
            if (at >= length) {
                return END;
            }
            if (isLetter(text[at])) {
                return readWord();
            }
            if (isDigit(text[at])) {
                return readNumber();
            }
            boolean stop = text[at] == ';';
            at++;
            return stop ? STOP : BAD;
        }

        private int readWord() {
            int from = at;
            long word = 0;
            while (at < length && isLetter(text[at])) {
                word = word << 8 | text[at];
                at++;
            }
            values[many] = word;
            return at - from <= WORD_MOST ? WORD : BAD;
        }

        private int readNumber() {
            int from = at;
            long number = 0;
            while (at < length && isDigit(text[at])) {
                number = number * 10 + text[at] - '0';
                at++;
            }
            values[many] = number;
            boolean letterBehind = at < length && isLetter(text[at]);
            return at - from <= DIGITS_MOST && !letterBehind ? NUMBER : BAD;
        }

        private static boolean isLetter(int sign) {
            return within(sign, 'a', 'z');
        }

        private static boolean isDigit(int sign) {
            return within(sign, '0', '9');
        }
    }

    /** Tells a text to a VALLEY line by line, up to its first FAULT. */
    private static final class Teller {
        // words that stand for themselves, as the Reader packs them
        static final long HERD = 0x68657264L;
        static final long BEAST = 0x6265617374L;
        static final long OF = 0x6f66L;
        static final long BELL = 0x62656c6cL;
        static final long LOUD = 0x6c6f7564L;
        static final long STRANGER = 0x737472616e676572L;
        static final long EAR = 0x656172L;
        static final long AT = 0x6174L;
        static final long BESIDE = 0x626573696465L;

        static final int NO_TOKEN = 1;
        static final int CANT_STAND = 2;
        static final int TOLD_ALREADY = 3;
        static final int CANT_BE = 4;
        static final int UNKNOWN = 5;

        int fault;
        int faultPlace = NONE;
        private final Reader reader;
        private int next;
        private int place;
        private long value;

        Teller(byte[] text) {
            reader = new Reader(text);
        }

        boolean tell(int bytes, Valley valley) {
            fault = 0;
            faultPlace = NONE;
            next = 0;
            valley.clear();
            reader.read(bytes);
            for (int lines = 0; lines < reader.many && !isAtEnd(); lines++) {
                if (!tellLine(valley)) {
                    return false;
                }
            }
            return true;
        }

        private boolean isAtEnd() {
            return next < reader.many && reader.sorts[next] == Reader.END;
        }

        private boolean tellLine(Valley valley) {
            if (!take(Reader.WORD)) {
                return false;
            }
            if (value == HERD) {
                return tellHerd(valley);
            }
            if (value == BEAST) {
                return tellBeast(valley);
            }
            if (value == STRANGER) {
                return tellStranger(valley);
            }
            if (value == EAR) {
                return tellEar(valley);
            }
            if (value == BESIDE) {
                return tellBeside(valley);
            }
            return refuse(CANT_STAND);
        }

        private boolean tellHerd(Valley valley) {
            if (valley.herds >= HERDS_MOST) {
                return refuse(CANT_STAND);
            }
            if (!takeNewName(valley.herdNames, valley.herds)) {
                return false;
            }
            long name = value;
            if (!take(Reader.STOP)) {
                return false;
            }
            valley.addHerd(name);
            return true;
        }

        private boolean tellBeast(Valley valley) {
            if (valley.beastsMany >= BEASTS_MOST) {
                return refuse(CANT_STAND);
            }
            if (!takeNewName(valley.bellNames, valley.bells)) {
                return false;
            }
            long name = value;
            if (!takeWord(OF) || !takeName()) {
                return false;
            }
            int herd = find(value, valley.herdNames, valley.herds);
            if (herd == NONE) {
                return refuse(UNKNOWN);
            }
            return tellBell(valley, name, herd);
        }

        private boolean tellStranger(Valley valley) {
            if (valley.bells - valley.beastsMany >= STRANGERS_MOST) {
                return refuse(CANT_STAND);
            }
            if (!takeNewName(valley.bellNames, valley.bells)) {
                return false;
            }
            return tellBell(valley, value, NONE);
        }

        private boolean tellBell(Valley valley, long name, int herd) {
            if (!takeWord(BELL) || !takeNumber(0, TONES - 1)) {
                return false;
            }
            int tone = (int) value;
            if (!takeWord(LOUD) || !takeNumber(1, LOUD_MOST)) {
                return false;
            }
            int loud = (int) value;
            if (!take(Reader.STOP)) {
                return false;
            }
            valley.addBell(name, herd, tone, loud);
            return true;
        }

        private boolean tellEar(Valley valley) {
            if (valley.ears >= EARS_MOST) {
                return refuse(CANT_STAND);
            }
            if (!takeNewName(valley.earNames, valley.ears)) {
                return false;
            }
            long name = value;
            if (!takeWord(AT) || !takeNumber(0, PLACE_MOST)) {
                return false;
            }
            int at = (int) value;
            if (!take(Reader.STOP)) {
                return false;
            }
            valley.addEar(name, at);
            return true;
        }

        private boolean tellBeside(Valley valley) {
            if (valley.besides >= BESIDES_MOST) {
                return refuse(CANT_STAND);
            }
            int one = takeBeast(valley);
            if (one == NONE) {
                return false;
            }
            int other = takeBeast(valley);
            if (other == NONE) {
                return false;
            }
            if (one == other || (valley.beside[one] >> other & 1) == 1) {
                return refuse(TOLD_ALREADY);
            }
            if (!take(Reader.STOP)) {
                return false;
            }
            valley.addBeside(one, other);
            return true;
        }

        private int takeBeast(Valley valley) {
            if (!takeName()) {
                return NONE;
            }
            int bell = find(value, valley.bellNames, valley.bells);
            if (bell == NONE || !valley.isBeast(bell)) {
                refuse(UNKNOWN);
                return NONE;
            }
            return bell;
        }

        private boolean takeNewName(long[] names, int many) {
            return takeName() && (find(value, names, many) == NONE || refuse(TOLD_ALREADY));
        }

        private boolean takeName() {
            return take(Reader.WORD) && (!standsForItself(value) || refuse(CANT_STAND));
        }

        private boolean takeWord(long word) {
            return take(Reader.WORD) && (value == word || refuse(CANT_STAND));
        }

        private boolean takeNumber(int least, int most) {
            return take(Reader.NUMBER) && (value >= least && value <= most || refuse(CANT_BE));
        }

        /** The Reader's last TOKEN is always refused, so there is a next one. */
        private boolean take(int sort) {
            if (next >= reader.many) {
                return refuse(CANT_STAND);
            }
            int found = reader.sorts[next];
            place = reader.places[next];
            value = reader.values[next];
            next++;
            if (found == Reader.BAD) {
                return refuse(NO_TOKEN);
            }
            return found == sort || refuse(CANT_STAND);
        }

        private boolean refuse(int what) {
            fault = what;
            faultPlace = place;
            return false;
        }

        private static boolean standsForItself(long word) {
            return word == HERD || word == BEAST || word == OF || word == BELL || word == LOUD
                || word == STRANGER || word == EAR || word == AT || word == BESIDE;
        }

        private static int find(long name, long[] names, int many) {
            for (int i = 0; i < many && i < names.length; i++) {
                if (names[i] == name) {
                    return i;
                }
            }
            return NONE;
        }
    }

    /** All that an image keeps. */
    private static final class Earnest {
        /** BELLS as bits, as in stands. */
        int there;
        int stands;
        int place;
        int wind;
        int year;
        final int[] creeps = new int[BELLS_MOST];

        void begin(Valley valley) {
            there = valley.beasts;
            stands = 0;
            place = 0;
            wind = 0;
            year = 0;
            Arrays.fill(creeps, 0);
        }

        void copy(Earnest other) {
            there = other.there;
            stands = other.stands;
            place = other.place;
            wind = other.wind;
            year = other.year;
            System.arraycopy(other.creeps, 0, creeps, 0, BELLS_MOST);
        }

        boolean isThere(int bell) {
            return (there >> bell & 1) == 1;
        }

        boolean isStanding(int bell) {
            return (stands >> bell & 1) == 1;
        }

        int toneOf(Valley valley, int bell) {
            return Math.floorMod(valley.tones[bell] - creeps[bell] * year, TONES);
        }

        int loudness(Valley valley, int ear, int tone) {
            int together = 0;
            for (int bell = 0; bell < valley.bells; bell++) {
                if (isThere(bell) && !isStanding(bell) && toneOf(valley, bell) == tone) {
                    together += valley.loudAt(bell, ear, place, wind);
                }
            }
            return together;
        }
    }

    /** SOUNDS and EVENINGS, numbered together. */
    private static final class Entries {
        int many;
        /** The QUARTER of a SOUND, the YEAR of an EVENING. */
        final int[] when = new int[ENTRIES_MOST];
        /** NONE of an EVENING. */
        final int[] ear = new int[ENTRIES_MOST];
        /** The TONE of a SOUND, the TONES of an EVENING as bits. */
        final int[] tones = new int[ENTRIES_MOST];
        final int[] least = new int[ENTRIES_MOST];
        final int[] most = new int[ENTRIES_MOST];
        final int[] told = new int[ENTRIES_MOST];
        /** NONE as long as it stands. */
        final int[] untold = new int[ENTRIES_MOST];

        int add(int at, int byEar, int tone, int from, int to, int time) {
            if (many >= ENTRIES_MOST) {
                return NONE;
            }
            when[many] = at;
            ear[many] = byEar;
            tones[many] = tone;
            least[many] = from;
            most[many] = to;
            told[many] = time;
            untold[many] = NONE;
            many++;
            return many - 1;
        }

        boolean isSound(int entry) {
            return ear[entry] != NONE;
        }

        boolean counts(int entry, int k) {
            return told[entry] <= k && (untold[entry] == NONE || untold[entry] > k);
        }
    }

    /** What the SOUNDS of a QUARTER ask together of each TONE at each EAR. */
    private static final class Bounds {
        /** TONES as bits of which some EAR has a SOUND. */
        int tones;
        /** The same for each EAR. */
        final int[] tonesAt = new int[EARS_MOST];
        /** EARS that have a SOUND. */
        int earsMany;
        final int[] ears = new int[EARS_MOST];
        private final int[] least = new int[EARS_MOST * TONES];
        private final int[] most = new int[EARS_MOST * TONES];

        void gather(Entries entries, int quarter, int k) {
            tones = 0;
            earsMany = 0;
            Arrays.fill(tonesAt, 0);
            for (int entry = 0; entry < entries.many; entry++) {
                if (entries.isSound(entry) && entries.when[entry] == quarter && entries.counts(entry, k)) {
                    narrow(entries, entry);
                }
            }
        }

        private void narrow(Entries entries, int entry) {
            int ear = entries.ear[entry];
            int tone = entries.tones[entry];
            int at = ear * TONES + tone;
            if (tonesAt[ear] == 0 && earsMany < EARS_MOST) {
                ears[earsMany] = ear;
                earsMany++;
            }
            if (!has(ear, tone)) {
                least[at] = 0;
                most[at] = HEARD_MOST;
            }
            least[at] = Math.max(least[at], entries.least[entry]);
            most[at] = Math.min(most[at], entries.most[entry]);
            tonesAt[ear] |= 1 << tone;
            tones |= 1 << tone;
        }

        boolean has(int ear, int tone) {
            return (tonesAt[ear] >> tone & 1) == 1;
        }

        /** Whether all asked of a TONE can still be so, if at most the rest comes to the sum. */
        boolean canBe(int tone, int[] sum, int[] rest) {
            for (int i = 0; i < earsMany; i++) {
                int at = ears[i] * TONES + tone;
                if (has(ears[i], tone) && (sum[at] > most[at] || sum[at] + rest[at] < least[at])) {
                    return false;
                }
            }
            return true;
        }

        /** Asked only of what it has. */
        boolean allow(int ear, int tone, int loud) {
            int at = ear * TONES + tone;
            return within(loud, least[at], most[at]);
        }
    }

    /**
     * SETS, chosen BELL by BELL at each PLACE, left as soon as a SOUND can't be so any more, or
     * when this PLACE has a set and all sets that could follow were found at others.
     * BELLS of a TONE without a SOUND are left out: they are free to ring or not in each set,
     * so they double the number of sets and are neither SURE nor QUIET.
     */
    private static final class Sets {
        int many;
        int sure;
        int quiet;
        int places;
        int leastPlace;
        int greatestPlace;
        private boolean foundHere;
        /** How many BELLS are asked, and for each depth of the choice which one and its TONE. */
        private int asked;
        private final int[] bells = new int[BELLS_MOST];
        private final int[] tones = new int[BELLS_MOST];
        /** How LOUD each of them is at each EAR. */
        private final int[] louds = new int[BELLS_MOST * EARS_MOST];
        /** What is chosen so far, of each TONE at each EAR. */
        private final int[] sum = new int[EARS_MOST * TONES];
        /** What may still come, of each TONE at each EAR. */
        private final int[] rest = new int[EARS_MOST * TONES];
        /** A bit for each set; those that go on from one choice lie side by side. */
        private final int[] seen = new int[SETS_MOST / WORD_BITS];

        void seek(Valley valley, Bounds bounds, int wind) {
            begin(valley, bounds);
            for (int place = 0; place <= PLACE_MOST; place++) {
                weigh(valley, bounds, place, wind);
                foundHere = false;
                if (anyCanBe(bounds)) {
                    choose(0, 0, bounds);
                }
                if (foundHere) {
                    places++;
                    leastPlace = leastPlace == NONE ? place : leastPlace;
                    greatestPlace = place;
                }
            }
            sure = many == 0 ? 0 : spread(sure);
            quiet = many == 0 ? 0 : spread(quiet);
            many <<= valley.bells - asked;
        }

        private void begin(Valley valley, Bounds bounds) {
            asked = 0;
            for (int bell = 0; bell < valley.bells; bell++) {
                if ((bounds.tones >> valley.tones[bell] & 1) == 1) {
                    bells[asked] = bell;
                    tones[asked] = valley.tones[bell];
                    asked++;
                }
            }
            many = 0;
            sure = -1;
            quiet = -1;
            places = 0;
            leastPlace = NONE;
            greatestPlace = NONE;
            Arrays.fill(sum, 0);
            Arrays.fill(seen, 0);
        }

        private void weigh(Valley valley, Bounds bounds, int place, int wind) {
            Arrays.fill(rest, 0);
            for (int depth = 0; depth < asked; depth++) {
                for (int i = 0; i < bounds.earsMany; i++) {
                    int ear = bounds.ears[i];
                    louds[depth * EARS_MOST + ear] = valley.loudAt(bells[depth], ear, place, wind);
                }
                add(depth, 1, rest, bounds);
            }
        }

        /** This alone looks at SOUNDS of TONES that no BELL has. */
        private boolean anyCanBe(Bounds bounds) {
            for (int tone = 0; tone < TONES; tone++) {
                if (!bounds.canBe(tone, sum, rest)) {
                    return false;
                }
            }
            return true;
        }

        /** The BELL chosen last is the lowest bit of the set. */
        private void choose(int depth, int set, Bounds bounds) {
            if (foundHere && allSeen(depth, set)) {
                return;
            }
            if (depth >= asked) {
                keep(set);
                return;
            }
            add(depth, -1, rest, bounds);
            if (bounds.canBe(tones[depth], sum, rest)) {
                choose(depth + 1, set << 1, bounds);
            }
            add(depth, 1, sum, bounds);
            if (bounds.canBe(tones[depth], sum, rest)) {
                choose(depth + 1, set << 1 | 1, bounds);
            }
            add(depth, -1, sum, bounds);
            add(depth, 1, rest, bounds);
        }

        private void add(int depth, int times, int[] to, Bounds bounds) {
            for (int i = 0; i < bounds.earsMany; i++) {
                int ear = bounds.ears[i];
                to[ear * TONES + tones[depth]] += times * louds[depth * EARS_MOST + ear];
            }
        }

        /** Whether all sets that go on from this one were found; if they fill more than a word: whether all were. */
        private boolean allSeen(int depth, int set) {
            int left = asked - depth;
            if (1 << left > WORD_BITS) {
                return many == 1 << asked;
            }
            int from = set << left;
            int bits = -1 >>> WORD_BITS - (1 << left) << from % WORD_BITS;
            return (seen[from / WORD_BITS] & bits) == bits;
        }

        private void keep(int set) {
            foundHere = true;
            int bit = 1 << set % WORD_BITS;
            if ((seen[set / WORD_BITS] & bit) == 0) {
                seen[set / WORD_BITS] |= bit;
                many++;
                sure &= set;
                quiet &= ~set;
            }
        }

        /** A set as chosen, as bits by the numbers of BELLS. */
        private int spread(int set) {
            int spread = 0;
            for (int depth = 0; depth < asked; depth++) {
                spread |= (set >> asked - 1 - depth & 1) << bells[depth];
            }
            return spread;
        }
    }

    /** PARTED, with what was told last for it. */
    private static final class Parting {
        boolean told;
        int earA;
        int placeA;
        int earB;
        int placeB;
        int quarter;
        int many;
        int sureA;
        int sureB;
        int mixed;
        int mixedSet;

        void seek(Valley valley, Bounds bounds, int wind) {
            many = 0;
            sureA = valley.beasts;
            sureB = valley.beasts;
            mixed = NONE;
            mixedSet = NONE;
            for (int set = 0; set <= valley.beasts; set++) {
                if ((set & ~valley.beasts) == 0 && isSo(set, valley, bounds, wind)) {
                    gather(set, valley);
                }
            }
            if (many == 0) {
                sureA = 0;
                sureB = 0;
            }
        }

        private void gather(int set, Valley valley) {
            many++;
            sureA &= set;
            sureB &= ~set;
            int strayed = countStrayed(set, valley);
            if (mixed == NONE || strayed < mixed) {
                mixed = strayed;
                mixedSet = set;
            }
        }

        private boolean isSo(int set, Valley valley, Bounds bounds, int wind) {
            int others = valley.beasts & ~set;
            for (int tone = 0; tone < TONES; tone++) {
                if (bounds.has(earA, tone)
                    && !bounds.allow(earA, tone, valley.loudness(set, tone, earA, placeA, wind))) {
                    return false;
                }
                if (bounds.has(earB, tone)
                    && !bounds.allow(earB, tone, valley.loudness(others, tone, earB, placeB, wind))) {
                    return false;
                }
            }
            return true;
        }

        private int countStrayed(int set, Valley valley) {
            int strayed = 0;
            for (int herd = 0; herd < valley.herds; herd++) {
                int here = Integer.bitCount(valley.herdBeasts[herd] & set);
                int there = Integer.bitCount(valley.herdBeasts[herd] & ~set);
                strayed += Math.min(here, there);
            }
            return strayed;
        }
    }

    /** CRACKED and FIRST: CREEPS tried BEAST by BEAST, left as soon as they can't be better. */
    private static final class Creeps {
        private int beasts;
        private final int[] told = new int[SEARCH_MOST];
        private int evenings;
        private final int[] number = new int[ENTRIES_MOST];
        private final int[] year = new int[ENTRIES_MOST];
        private final int[] tones = new int[ENTRIES_MOST];
        private final int[] tried = new int[SEARCH_MOST];
        /** For each depth, the TONES that the BEASTS ahead of it give each EVENING. */
        private final int[] given = new int[(SEARCH_MOST + 1) * ENTRIES_MOST];
        private int least;
        private int farthest;

        /** Asked only with at most SEARCH_MOST BEASTS. */
        void gather(Valley valley, Entries entries, int k) {
            beasts = 0;
            for (int bell = 0; bell < valley.bells && beasts < SEARCH_MOST; bell++) {
                if (valley.isBeast(bell)) {
                    told[beasts] = valley.tones[bell];
                    beasts++;
                }
            }
            evenings = 0;
            for (int entry = 0; entry < entries.many; entry++) {
                if (!entries.isSound(entry) && entries.counts(entry, k)) {
                    number[evenings] = entry;
                    year[evenings] = entries.when[entry];
                    tones[evenings] = entries.tones[entry];
                    given[evenings] = 0;
                    evenings++;
                }
            }
        }

        int leastTogether(int[] best) {
            least = CREEP_MOST * SEARCH_MOST + 1;
            if (countNotTooMany() == evenings) {
                seekLeast(0, 0, best);
            }
            return least > CREEP_MOST * SEARCH_MOST ? NONE : least;
        }

        /** Rows come in the order of their numbers: the first of the least is the one that stays. */
        private void seekLeast(int depth, int together, int[] best) {
            if (together >= least) {
                return;
            }
            if (depth >= beasts) {
                least = together;
                System.arraycopy(tried, 0, best, 0, beasts);
                return;
            }
            for (int creep = 0; creep <= CREEP_MOST; creep++) {
                tried[depth] = creep;
                if (ring(depth, creep, evenings) == evenings) {
                    seekLeast(depth + 1, together + creep, best);
                }
            }
        }

        int firstThatCant() {
            farthest = NONE;
            seekFarthest(0, countNotTooMany());
            return within(farthest, 0, evenings - 1) ? number[farthest] : NONE;
        }

        /** The EVENING at which the CREEPS that hold longest fail is the first that can't be so. */
        private void seekFarthest(int depth, int reach) {
            if (reach <= farthest) {
                return;
            }
            if (depth >= beasts) {
                farthest = reach;
                return;
            }
            for (int creep = 0; creep <= CREEP_MOST; creep++) {
                seekFarthest(depth + 1, ring(depth, creep, reach));
            }
        }

        /**
         * Adds a BEAST to the EVENINGS ahead of reach: how many, up to the first where it wasn't heard
         * or that now has more TONES left than BEASTS are. With the last BEAST just those that are so stay.
         */
        private int ring(int depth, int creep, int reach) {
            int from = depth * ENTRIES_MOST;
            int to = from + ENTRIES_MOST;
            int left = beasts - depth - 1;
            for (int i = 0; i < reach; i++) {
                int tone = 1 << Math.floorMod(told[depth] - creep * year[i], TONES);
                int both = given[from + i] | tone;
                if ((tones[i] & tone) == 0 || Integer.bitCount(tones[i] & ~both) > left) {
                    return i;
                }
                given[to + i] = both;
            }
            return reach;
        }

        /** As ring counts, ahead of the first BEAST. */
        private int countNotTooMany() {
            int i = 0;
            while (i < evenings && Integer.bitCount(tones[i]) <= beasts) {
                i++;
            }
            return i;
        }
    }

    /**
     * DEALT. Sets of at most two that take the same have, without those in both, either two
     * BEASTS of one TONE and loudness, or all BEASTS of one TONE: so each TONE is looked at alone.
     */
    private static final class Dealer {
        private int beasts;
        private int missing;
        private final int[] louds = new int[SEARCH_MOST];

        /** Asked only with at most SEARCH_MOST BEASTS. */
        int deal(Valley valley, int m, int[] row) {
            missing = m;
            beasts = 0;
            for (int bell = 0; bell < valley.bells && beasts < SEARCH_MOST; bell++) {
                if (valley.isBeast(bell)) {
                    louds[beasts] = valley.louds[bell];
                    beasts++;
                }
            }
            for (int most = 0; most < beasts; most++) {
                if (dealFrom(0, 0, most, row)) {
                    return most;
                }
            }
            // a TONE for each never fails
            dealFrom(0, 0, beasts, row);
            return beasts;
        }

        private boolean dealFrom(int depth, int used, int most, int[] row) {
            if (depth >= beasts) {
                return true;
            }
            for (int tone = 0; tone <= used && tone < most; tone++) {
                if (isKnown(depth, tone, row)) {
                    row[depth] = tone;
                    if (dealFrom(depth + 1, Math.max(used, tone + 1), most, row)) {
                        return true;
                    }
                }
            }
            return false;
        }

        private boolean isKnown(int beast, int tone, int[] row) {
            for (int a = 0; a < beast; a++) {
                if (row[a] == tone && louds[a] == louds[beast]) {
                    return false;
                }
            }
            return missing == 1 || twoAreKnown(beast, tone, row);
        }

        private boolean twoAreKnown(int beast, int tone, int[] row) {
            int loud = louds[beast];
            for (int a = 0; a < beast; a++) {
                for (int b = 0; b < a; b++) {
                    if (row[a] == tone && row[b] == tone) {
                        int both = louds[a] + louds[b];
                        if (both == loud || Math.abs(louds[a] - louds[b]) == loud) {
                            return false;
                        }
                        if (hasLoud(both - loud, beast, tone, row)) {
                            return false;
                        }
                    }
                }
            }
            return true;
        }

        /** Never one of the two themselves: then the other would be as loud as the new BEAST. */
        private boolean hasLoud(int loud, int beast, int tone, int[] row) {
            for (int c = 0; c < beast; c++) {
                if (row[c] == tone && louds[c] == loud) {
                    return true;
                }
            }
            return false;
        }
    }
}
