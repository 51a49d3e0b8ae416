import java.util.ArrayList;
import java.util.Arrays;
import java.util.HashMap;
import java.util.HashSet;
import java.util.List;
import java.util.Map;
import java.util.Set;
import java.util.regex.Matcher;
import java.util.regex.Pattern;

/** The document once more, as plainly as can be and without care for time or room: what RandomRunsTest goes by. */
final class Plain {
    private static final Set<String> OWN =
        Set.of("herd", "beast", "of", "bell", "loud", "stranger", "ear", "at", "beside");
    private static final Pattern TOKEN = Pattern.compile("[ \n]*(?:([a-z]+)|([0-9]+)([a-z])?|(;)|([^ \n]))");

    record Bell(String name, int herd, int tone, int loud) { }

    record Entry(boolean evening, int when, int ear, int tone, int least, int most, int told) { }

    record Token(char sort, int place, String text) { }

    private StringBuilder tape = new StringBuilder();
    private int fault = 0;
    private int place = -1;
    private List<String> herds = new ArrayList<>();
    private List<Bell> bells = new ArrayList<>();
    private Map<String, Integer> ears = new HashMap<>();
    private List<Integer> earPlaces = new ArrayList<>();
    private Set<Set<Integer>> besides = new HashSet<>();
    private int[] state = new int[3];
    private boolean[] there = new boolean[11];
    private boolean[] stands = new boolean[11];
    private int[] creeps = new int[11];
    private final Object[][] boxes = new Object[3][];
    private final List<Entry> entries = new ArrayList<>();
    private final Map<Integer, Integer> untold = new HashMap<>();
    private int time = 0;
    private int[] spring = null;
    private int[] row = new int[0];

    private static boolean in(int n, int least, int most) {
        return least <= n && n <= most;
    }

    int feed(int... numbers) {
        if (tape.length() + 20 > 1500) {
            return -1;
        }
        for (int n : numbers) {
            for (int i = 3; i >= 0; i--) {
                tape.append((char) (n >>> 8 * i & 255));
            }
        }
        return tape.length();
    }

    int end(int n) {
        if (!in(n, 0, tape.length())) {
            return -1;
        }
        tape.setLength(n);
        return n;
    }

    // ---- the text

    private List<Token> tokens(String text) {
        List<Token> all = new ArrayList<>();
        Matcher m = TOKEN.matcher(text);
        int at = 0;
        while (m.find(at) && m.start() == at) {
            if (m.group(1) != null) {
                all.add(new Token(m.group(1).length() > 8 ? '!' : 'w', m.start(1), m.group(1)));
            } else if (m.group(2) != null) {
                boolean bad = m.group(2).length() > 4 || m.group(3) != null;
                all.add(new Token(bad ? '!' : 'n', m.start(2), m.group(2)));
            } else if (m.group(4) != null) {
                all.add(new Token(';', m.start(4), ";"));
            } else {
                all.add(new Token('!', m.start(5), ""));
            }
            at = m.end();
        }
        all.add(new Token('$', text.length(), ""));
        return all;
    }

    private static final Map<String, String> FORMS = Map.of(
        "herd", "newherd ;", "beast", "newbell =of oldherd =bell N0-11 =loud N1-99 ;",
        "stranger", "newbell =bell N0-11 =loud N1-99 ;", "ear", "newear =at N0-99 ;", "beside", "beast1 beast2 ;");
    private static final Map<String, Integer> MOST = Map.of("herd", 3, "beast", 9, "stranger", 2, "ear", 4, "beside", 20);

    int valley() {
        String text = tape.toString();
        tape.setLength(0);
        Plain next = new Plain();
        next.read(tokens(text));
        fault = next.fault;
        place = next.place;
        if (fault != 0) {
            return -1;
        }
        herds = next.herds;
        bells = next.bells;
        ears = next.ears;
        earPlaces = next.earPlaces;
        besides = next.besides;
        state = new int[3];
        creeps = new int[11];
        stands = new boolean[11];
        there = new boolean[11];
        for (int b = 0; b < bells.size(); b++) {
            there[b] = beast(b);
        }
        entries.clear();
        untold.clear();
        row = new int[0];
        Arrays.fill(boxes, null);
        spring = null;
        return bells.size();
    }

    private void read(List<Token> tokens) {
        Map<String, Integer> many = new HashMap<>();
        int i = 0;
        while (fault == 0 && tokens.get(i).sort != '$') {
            Token first = tokens.get(i++);
            String form = FORMS.get(first.text);
            if (first.sort == '!') {
                fault(1, first);
            } else if (form == null || many.merge(first.text, 1, Integer::sum) > MOST.get(first.text)) {
                fault(2, first);
            } else {
                List<String> got = new ArrayList<>();
                for (String item : form.split(" ")) {
                    if (fault == 0) {
                        Token t = tokens.get(i);
                        fault(check(item, t, got), t);
                        got.add(t.text);
                        i++;
                    }
                }
                if (fault == 0) {
                    add(first.text, got);
                }
            }
        }
    }

    private void fault(int what, Token t) {
        if (what != 0) {
            fault = what;
            place = t.place;
        }
    }

    private int check(String item, Token t, List<String> got) {
        if (t.sort == '!') {
            return 1;
        }
        if (item.equals(";")) {
            return t.sort == ';' ? 0 : 2;
        }
        if (item.startsWith("=")) {
            return t.sort == 'w' && t.text.equals(item.substring(1)) ? 0 : 2;
        }
        if (item.startsWith("N")) {
            String[] ends = item.substring(1).split("-");
            if (t.sort != 'n') {
                return 2;
            }
            return in(Integer.parseInt(t.text), Integer.parseInt(ends[0]), Integer.parseInt(ends[1])) ? 0 : 4;
        }
        if (t.sort != 'w' || OWN.contains(t.text)) {
            return 2;
        }
        switch (item) {
            case "newherd": return herds.contains(t.text) ? 3 : 0;
            case "oldherd": return herds.contains(t.text) ? 0 : 5;
            case "newear": return ears.containsKey(t.text) ? 3 : 0;
            case "newbell": return number(t.text) >= 0 ? 3 : 0;
            case "beast1": return beast(number(t.text)) ? 0 : 5;
            default:
                if (!beast(number(t.text))) {
                    return 5;
                }
                return t.text.equals(got.get(0)) || besides.contains(Set.of(number(t.text), number(got.get(0)))) ? 3 : 0;
        }
    }

    private void add(String word, List<String> got) {
        switch (word) {
            case "herd" -> herds.add(got.get(0));
            case "beast" -> bells.add(new Bell(got.get(0), herds.indexOf(got.get(2)),
                Integer.parseInt(got.get(4)), Integer.parseInt(got.get(6))));
            case "stranger" -> bells.add(new Bell(got.get(0), -1, Integer.parseInt(got.get(2)), Integer.parseInt(got.get(4))));
            case "ear" -> {
                ears.put(got.get(0), ears.size());
                earPlaces.add(Integer.parseInt(got.get(2)));
            }
            default -> besides.add(Set.of(number(got.get(0)), number(got.get(1))));
        }
    }

    private int number(String name) {
        for (int b = 0; b < bells.size(); b++) {
            if (bells.get(b).name.equals(name)) {
                return b;
            }
        }
        return -1;
    }

    private boolean beast(int b) {
        return is(b) && bells.get(b).herd >= 0;
    }

    private boolean is(int b) {
        return in(b, 0, bells.size() - 1);
    }

    private boolean isEar(int e) {
        return in(e, 0, earPlaces.size() - 1);
    }

    int fault(int what) {
        return what == 0 ? fault : what == 1 ? place : -1;
    }

    // ---- in earnest: state is PLACE, WIND, YEAR

    private int tone(int b, int creep, int year) {
        int t = bells.get(b).tone;
        for (int i = 0; i < creep * year; i++) {
            t = t == 0 ? 11 : t - 1;
        }
        return t;
    }

    private int loud(int b, int ear, int at, int wind) {
        int l = bells.get(b).loud - Math.abs(at - earPlaces.get(ear)) - wind;
        return l < 0 ? 0 : l;
    }

    int bell(int b, int what) {
        if (!is(b) || !in(what, 0, 5)) {
            return -2;
        }
        return new int[] {tone(b, creeps[b], state[2]), bells.get(b).loud, bells.get(b).herd, creeps[b],
            there[b] ? 1 : 0, stands[b] ? 1 : 0}[what];
    }

    int hear(int ear, int tone) {
        if (!isEar(ear) || !in(tone, 0, 11)) {
            return -1;
        }
        int sum = 0;
        for (int b = 0; b < bells.size(); b++) {
            if (there[b] && !stands[b] && tone(b, creeps[b], state[2]) == tone) {
                sum += loud(b, ear, state[0], state[1]);
            }
        }
        return sum;
    }

    int chord(int ear) {
        int bits = 0;
        for (int t = 11; t >= 0; t--) {
            bits = bits * 2 + (hear(ear, t) > 0 ? 1 : 0);
        }
        return isEar(ear) ? bits : -1;
    }

    boolean comes(int b, boolean is) {
        if (!is(b) || there[b] == is) {
            return false;
        }
        there[b] = is;
        stands[b] = false;
        return true;
    }

    boolean stand(int b, boolean is) {
        if (!is(b) || !there[b] || stands[b] == is) {
            return false;
        }
        stands[b] = is;
        return true;
    }

    int walk(int at, int wind) {
        if (!in(at, 0, 99) || !in(wind, 0, 20)) {
            return -1;
        }
        int was = state[0];
        state = new int[] {at, wind, state[2]};
        return was;
    }

    int crack(int b, int creep) {
        if (!is(b) || !in(creep, 0, 2)) {
            return -1;
        }
        int was = creeps[b];
        creeps[b] = creep;
        return was;
    }

    int years(int by) {
        if (!in(by, 0, 20) || state[2] + by > 200) {
            return -1;
        }
        state[2] += by;
        return state[2];
    }

    // ---- ENTRIES

    int sound(int quarter, int ear, int tone, int least, int most) {
        if (!in(quarter, 0, 95) || !isEar(ear) || !in(tone, 0, 11) || !in(least, 0, 999) || !in(most, 0, 999)
            || most < least || entries.size() == 40) {
            return -1;
        }
        entries.add(new Entry(false, quarter, ear, tone, least, most, time));
        return entries.size() - 1;
    }

    int evening(int year, int tones) {
        if (!in(year, 0, 20) || !in(tones, 0, 4095) || entries.size() == 40) {
            return -1;
        }
        entries.add(new Entry(true, year, -1, tones, 0, 0, time));
        return entries.size() - 1;
    }

    int note(int quarter, int ear, int tone, int some) {
        int h = hear(ear, tone);
        return h < 0 || !in(some, 0, 99) ? -1 : sound(quarter, ear, tone, h < some ? 0 : h - some, h + some);
    }

    boolean untell(int e) {
        return in(e, 0, entries.size() - 1) && untold.putIfAbsent(e, time) == null;
    }

    int later(int by) {
        if (!in(by, 0, 1000) || time + by > 100000) {
            return -1;
        }
        time += by;
        return time;
    }

    private List<Entry> known(boolean evening, int k) {
        List<Entry> some = new ArrayList<>();
        for (int i = 0; i < entries.size(); i++) {
            boolean gone = untold.containsKey(i) && untold.get(i) <= k;
            if (entries.get(i).evening == evening && entries.get(i).told <= k && !gone) {
                some.add(entries.get(i));
            }
        }
        return some;
    }

    private boolean so(Entry sound, int ringing, int at, int wind) {
        int sum = 0;
        for (int b = 0; b < bells.size(); b++) {
            if ((ringing & 1 << b) != 0 && bells.get(b).tone == sound.tone) {
                sum += loud(b, sound.ear, at, wind);
            }
        }
        return in(sum, sound.least, sound.most);
    }

    private int beasts() {
        int bits = 0;
        for (int b = 0; b < bells.size(); b++) {
            bits |= beast(b) ? 1 << b : 0;
        }
        return bits;
    }

    // ---- what can have been

    int sets(int quarter, int wind, int what, int k) {
        if (!in(quarter, 0, 95) || !in(wind, 0, 20) || !in(what, 0, 5)) {
            return -2;
        }
        List<Entry> sounds = known(false, k);
        sounds.removeIf(s -> s.when != quarter);
        int all = (1 << bells.size()) - 1;
        int many = 0;
        int sure = all;
        int quiet = all;
        boolean[] where = new boolean[100];
        for (int set = 0; set <= all; set++) {
            boolean found = false;
            for (int at = 0; at < 100; at++) {
                boolean good = true;
                for (Entry s : sounds) {
                    good = good && so(s, set, at, wind);
                }
                found |= good;
                where[at] |= good;
            }
            if (found) {
                many++;
                sure &= set;
                quiet &= ~set;
            }
        }
        int places = 0;
        int first = -1;
        int last = -1;
        for (int at = 0; at < 100; at++) {
            places += where[at] ? 1 : 0;
            last = where[at] ? at : last;
            first = where[99 - at] ? 99 - at : first;
        }
        return new int[] {many, many == 0 ? 0 : sure, many == 0 ? 0 : quiet, places, first, last}[what];
    }

    boolean spring(int earA, int placeA, int earB, int placeB, int quarter) {
        if (!isEar(earA) || !isEar(earB) || earA == earB || !in(placeA, 0, 99) || !in(placeB, 0, 99)
            || !in(quarter, 0, 95)) {
            return false;
        }
        spring = new int[] {earA, placeA, earB, placeB, quarter};
        return true;
    }

    int parted(int wind, int what, int k) {
        if (!in(wind, 0, 20) || !in(what, 0, 4) || spring == null) {
            return -2;
        }
        List<Entry> sounds = known(false, k);
        int beasts = beasts();
        int many = 0;
        int[] sure = {beasts, beasts};
        int mixed = -1;
        int best = -1;
        for (int set = 0; set < 2048; set++) {
            boolean good = (set & beasts) == set;
            for (Entry s : sounds) {
                if (s.when == spring[4] && s.ear == spring[0]) {
                    good = good && so(s, set, spring[1], wind);
                }
                if (s.when == spring[4] && s.ear == spring[2]) {
                    good = good && so(s, beasts - set, spring[3], wind);
                }
            }
            if (good) {
                many++;
                sure[0] &= set;
                sure[1] &= beasts - set;
                int apart = 0;
                for (int h = 0; h < herds.size(); h++) {
                    int[] count = new int[2];
                    for (int b = 0; b < bells.size(); b++) {
                        if (bells.get(b).herd == h) {
                            count[set >> b & 1]++;
                        }
                    }
                    apart += Math.min(count[0], count[1]);
                }
                if (best < 0 || apart < mixed) {
                    mixed = apart;
                    best = set;
                }
            }
        }
        return new int[] {many, many == 0 ? 0 : sure[0], many == 0 ? 0 : sure[1], mixed, best}[what];
    }

    int came(int stranger, int at, int wind, int what, int k) {
        if (!is(stranger) || beast(stranger) || !in(at, 0, 99) || !in(wind, 0, 20) || !in(what, 0, 2)) {
            return -2;
        }
        List<Integer> from = new ArrayList<>();
        for (int q = 0; q <= 96; q++) {
            boolean good = true;
            for (Entry s : known(false, k)) {
                good = good && so(s, s.when >= q ? beasts() | 1 << stranger : beasts(), at, wind);
            }
            if (good) {
                from.add(q);
            }
        }
        if (what == 0) {
            return from.size();
        }
        return from.isEmpty() ? -1 : from.get(what == 1 ? 0 : from.size() - 1);
    }

    private List<Integer> beastNumbers() {
        List<Integer> some = new ArrayList<>();
        for (int b = 0; b < bells.size(); b++) {
            if (beast(b)) {
                some.add(b);
            }
        }
        return some;
    }

    private boolean holds(int[] creep, Entry evening) {
        int bits = 0;
        for (int i = 0; i < creep.length; i++) {
            bits |= 1 << tone(beastNumbers().get(i), creep[i], evening.when);
        }
        return bits == evening.tone;
    }

    private static boolean nextRow(int[] row, int base) {
        for (int i = row.length - 1; i >= 0; i--) {
            row[i]++;
            if (row[i] < base) {
                return true;
            }
            row[i] = 0;
        }
        return false;
    }

    /** The CREEPS of least together by which all these EVENINGS are so, or null. */
    private int[] creepsFor(List<Entry> evenings) {
        int[] tried = new int[beastNumbers().size()];
        int[] best = null;
        do {
            boolean good = true;
            for (Entry e : evenings) {
                good = good && holds(tried, e);
            }
            if (good && (best == null || Arrays.stream(tried).sum() < Arrays.stream(best).sum())) {
                best = tried.clone();
            }
        } while (nextRow(tried, 3));
        return best;
    }

    int cracked(int k) {
        row = new int[0];
        if (beastNumbers().size() > 8) {
            return -2;
        }
        int[] best = creepsFor(known(true, k));
        if (best == null) {
            return -1;
        }
        row = best;
        return Arrays.stream(best).sum();
    }

    int first(int k) {
        if (beastNumbers().size() > 8) {
            return -2;
        }
        List<Entry> evenings = known(true, k);
        for (int i = 0; i < evenings.size(); i++) {
            if (creepsFor(evenings.subList(0, i + 1)) == null) {
                for (int e = 0; e < entries.size(); e++) {
                    if (entries.get(e) == evenings.get(i)) {
                        return e;
                    }
                }
            }
        }
        return -1;
    }

    private boolean known(int[] tones, List<Integer> beasts, int m) {
        Set<String> taken = new HashSet<>();
        for (int set = 0; set < 1 << tones.length; set++) {
            if (Integer.bitCount(set) <= m) {
                int[] chord = new int[12];
                for (int i = 0; i < tones.length; i++) {
                    chord[tones[i]] += (set >> i & 1) * bells.get(beasts.get(i)).loud;
                }
                if (!taken.add(Arrays.toString(chord))) {
                    return false;
                }
            }
        }
        return true;
    }

    int dealt(int m) {
        row = new int[0];
        if (!in(m, 1, 2)) {
            return -1;
        }
        List<Integer> beasts = beastNumbers();
        if (beasts.size() > 8) {
            return -2;
        }
        int[] best = null;
        List<int[]> rows = new ArrayList<>();
        grow(new int[beasts.size()], 0, 0, rows);
        for (int[] r : rows) {
            if ((best == null || tones(r) < tones(best)) && known(r, beasts, m)) {
                best = r;
            }
        }
        row = best;
        return tones(best);
    }

    private static int tones(int[] r) {
        return (int) Arrays.stream(r).distinct().count();
    }

    private static void grow(int[] r, int at, int used, List<int[]> rows) {
        if (at == r.length) {
            rows.add(r.clone());
            return;
        }
        for (int t = 0; t <= used; t++) {
            r[at] = t;
            grow(r, at + 1, Math.max(used, t + 1), rows);
        }
    }

    int lies(int i) {
        return in(i, 0, row.length - 1) ? row[i] : -1;
    }

    int fresh(int loud, int neighbours) {
        if (!in(loud, 1, 99) || (neighbours | beasts()) != beasts()) {
            return -2;
        }
        Set<Integer> near = new HashSet<>();
        for (int b : beastNumbers()) {
            if ((neighbours >> b & 1) == 1) {
                near.add(b);
                for (Set<Integer> pair : besides) {
                    if (pair.contains(b)) {
                        near.addAll(pair);
                    }
                }
            }
        }
        int best = -1;
        int bestFar = -1;
        for (int t = 0; t < 12; t++) {
            Set<String> taken = new HashSet<>();
            boolean good = taken.add(t + " " + loud);
            for (int b : beastNumbers()) {
                good &= taken.add(bells.get(b).tone + " " + bells.get(b).loud);
            }
            int far = 12;
            for (int b : near) {
                int up = (bells.get(b).tone - t + 12) % 12;
                far = Math.min(far, Math.min(up, 12 - up));
            }
            if (good && far > bestFar) {
                best = t;
                bestFar = far;
            }
        }
        return best;
    }

    // ---- images

    int image(int box) {
        if (!in(box, 0, 2)) {
            return -1;
        }
        boxes[box] = new Object[] {state.clone(), there.clone(), stands.clone(), creeps.clone()};
        return state[2];
    }

    int back(int box) {
        if (!in(box, 0, 2) || boxes[box] == null) {
            return -1;
        }
        state = ((int[]) boxes[box][0]).clone();
        there = ((boolean[]) boxes[box][1]).clone();
        stands = ((boolean[]) boxes[box][2]).clone();
        creeps = ((int[]) boxes[box][3]).clone();
        return state[2];
    }

    int about(int what) {
        int beasts = beastNumbers().size();
        int[] all = {herds.size(), beasts, bells.size() - beasts, earPlaces.size(), state[0], state[1], state[2],
            entries.size(), time, tape.length(), row.length};
        return in(what, 0, 10) ? all[what] : -1;
    }
}
