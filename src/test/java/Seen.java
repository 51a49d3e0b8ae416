import java.util.ArrayList;
import java.util.List;

/**
 * All that calls can tell of an object. Those that change something come last, and each shows
 * what could not be seen without it: what is UNTOLD, what BOXES keep, what the TAPE has.
 */
final class Seen {
    private static final int[] QUARTERS = {0, 1, 95};
    private final ChordHerds x;
    private final int bells;
    private final List<Integer> all = new ArrayList<>();

    private Seen(ChordHerds x) {
        this.x = x;
        bells = x.about(1) + x.about(2);
    }

    static List<Integer> of(ChordHerds x) {
        Seen seen = new Seen(x);
        seen.plain();
        seen.earnest();
        seen.searches();
        seen.boxes();
        seen.entries();
        seen.tape();
        return seen.all;
    }

    private void plain() {
        for (int what = 0; what <= 10; what++) {
            all.add(x.about(what));
        }
        all.add(x.fault(0));
        all.add(x.fault(1));
        for (int i = 0; i < 9; i++) {
            all.add(x.lies(i));
        }
    }

    private void earnest() {
        for (int bell = 0; bell < bells; bell++) {
            for (int what = 0; what < 6; what++) {
                all.add(x.bell(bell, what));
            }
        }
        for (int ear = 0; ear < x.about(3); ear++) {
            all.add(x.chord(ear));
        }
    }

    private void searches() {
        int now = x.about(8);
        for (int quarter : QUARTERS) {
            for (int what = 0; what < 6; what++) {
                all.add(x.sets(quarter, 0, what, now));
            }
        }
        for (int what = 0; what < 5; what++) {
            all.add(x.parted(0, what, now));
        }
        for (int bell = 0; bell < bells; bell++) {
            all.add(x.came(bell, 0, 0, 0, now));
        }
        all.add(x.first(now));
        all.add(x.fresh(50, 0));
        for (int bell = 0; bell < bells; bell++) {
            all.add(x.fresh(50, 1 << bell));
        }
    }

    private void boxes() {
        for (int box = 0; box < 3; box++) {
            all.add(x.back(box));
            for (int what = 4; what <= 6; what++) {
                all.add(x.about(what));
            }
            for (int bell = 0; bell < bells; bell++) {
                all.add(x.bell(bell, 3) * 4 + x.bell(bell, 4) * 2 + x.bell(bell, 5));
            }
        }
    }

    private void entries() {
        int many = x.about(7);
        for (int entry = 0; entry < many; entry++) {
            all.add(x.untell(entry) ? 1 : 0);
        }
    }

    private void tape() {
        all.add(x.valley());
        all.add(x.fault(0));
        all.add(x.fault(1));
        for (int what = 0; what < 4; what++) {
            all.add(x.about(what));
        }
    }
}
