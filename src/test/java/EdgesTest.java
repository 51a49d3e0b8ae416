import java.util.HashMap;
import java.util.List;
import java.util.Map;
import java.util.function.Supplier;

/**
 * Each number that each call takes, at both ends: the last that is still taken and the first that is not.
 * What is refused answers as its promise says, and all that can be seen of the object is as without the call.
 */
public final class EdgesTest {
    private static final int NONE = ChordHerds.NONE;
    private static final int OTHER = -2;
    private static final int NO = 0;
    private static final Map<Supplier<ChordHerds>, List<Integer>> UNTOUCHED = new HashMap<>();
    private static final Supplier<ChordHerds> NEW = ChordHerds::new;
    private static final Supplier<ChordHerds> SOME = States::some;
    private static final Supplier<ChordHerds> FULL = States::full;
    private static final Supplier<ChordHerds> LATE = States::late;

    private interface Call {
        int with(ChordHerds x, int n);
    }

    public static void main(String[] args) {
        tapeAndText();
        bells();
        ears();
        comingAndStanding();
        walkCrackYears();
        sound();
        eveningAndNote();
        untellAndLater();
        sets();
        spring();
        partedAndCame();
        rows();
        fresh();
        imagesAndAbout();
        allThatIsFull();
        theLastTimeAndYear();
        nothingAtAll();
        Check.finish("EdgesTest");
    }

    private static int bit(boolean is) {
        return is ? 1 : 0;
    }

    private static void refused(String told, Supplier<ChordHerds> state, Call call, int n, int answer) {
        ChordHerds x = state.get();
        Check.due(told + " with " + n, call.with(x, n), answer);
        List<Integer> before = UNTOUCHED.computeIfAbsent(state, s -> Seen.of(s.get()));
        Check.due(told + " with " + n + " changed nothing", Seen.of(x).equals(before), true);
    }

    private static void taken(String told, Supplier<ChordHerds> state, Call call, int n, int refusal) {
        Check.due(told + " with " + n + " is taken", call.with(state.get(), n) != refusal, true);
    }

    /** Of all numbers those from least to most are taken, no other. */
    private static void range(String told, int least, int most, int refusal, Call call) {
        taken(told, SOME, call, least, refusal);
        taken(told, SOME, call, most, refusal);
        refused(told, SOME, call, least - 1, refusal);
        refused(told, SOME, call, most + 1, refusal);
        refused(told, SOME, call, Integer.MIN_VALUE, refusal);
        refused(told, SOME, call, Integer.MAX_VALUE, refusal);
    }

    private static void tapeAndText() {
        range("end", 0, 14, NONE, (x, n) -> x.end(n));
        range("fault", 0, 1, NONE, (x, n) -> x.fault(n));
        ChordHerds x = States.some();
        Check.due("fault(0) of some", x.fault(0), 3);
        Check.due("fault(1) of some", x.fault(1), 12);
    }

    private static void bells() {
        range("bell", 0, 4, OTHER, (x, n) -> x.bell(n, 0));
        range("what of a BELL", 0, 5, OTHER, (x, n) -> x.bell(0, n));
        range("what of a STRANGER", 0, 5, OTHER, (x, n) -> x.bell(4, n));
    }

    private static void ears() {
        range("hear by EAR", 0, 2, NONE, (x, n) -> x.hear(n, 0));
        range("hear by TONE", 0, 11, NONE, (x, n) -> x.hear(0, n));
        range("chord", 0, 2, NONE, (x, n) -> x.chord(n));
    }

    private static void comingAndStanding() {
        // THERE are all but BELL 4, BELL 0 STANDS
        range("a BELL goes", 0, 3, NO, (x, n) -> bit(x.comes(n, false)));
        taken("a BELL comes", SOME, (x, n) -> bit(x.comes(n, true)), 4, NO);
        for (int bell = 0; bell < 4; bell++) {
            refused("THERE already", SOME, (x, n) -> bit(x.comes(n, true)), bell, NO);
        }
        range("a BELL STANDS", 1, 3, NO, (x, n) -> bit(x.stand(n, true)));
        range("a BELL STANDS no more", 0, 0, NO, (x, n) -> bit(x.stand(n, false)));
        int[] none = {-1, 5, 31, 32, 33, Integer.MIN_VALUE, Integer.MAX_VALUE};
        for (int bell : none) {
            refused("no BELL comes", SOME, (x, n) -> bit(x.comes(n, true)), bell, NO);
            refused("no BELL goes", SOME, (x, n) -> bit(x.comes(n, false)), bell, NO);
            refused("no BELL STANDS", SOME, (x, n) -> bit(x.stand(n, true)), bell, NO);
            refused("no BELL STANDS no more", SOME, (x, n) -> bit(x.stand(n, false)), bell, NO);
        }
    }

    private static void walkCrackYears() {
        range("walk to a PLACE", 0, 99, NONE, (x, n) -> x.walk(n, 0));
        range("walk in a WIND", 0, 20, NONE, (x, n) -> x.walk(0, n));
        range("crack a BELL", 0, 4, NONE, (x, n) -> x.crack(n, 1));
        range("crack by a CREEP", 0, 2, NONE, (x, n) -> x.crack(4, n));
        range("years", 0, 20, NONE, (x, n) -> x.years(n));
    }

    private static void sound() {
        range("sound in a QUARTER", 0, 95, NONE, (x, n) -> x.sound(n, 0, 0, 0, 0));
        range("sound at an EAR", 0, 2, NONE, (x, n) -> x.sound(0, n, 0, 0, 0));
        range("sound of a TONE", 0, 11, NONE, (x, n) -> x.sound(0, 0, n, 0, 0));
        range("sound from least", 0, 999, NONE, (x, n) -> x.sound(0, 0, 0, n, 999));
        range("sound to most", 0, 999, NONE, (x, n) -> x.sound(0, 0, 0, 0, n));
        range("least, most 5", 0, 5, NONE, (x, n) -> x.sound(0, 0, 0, n, 5));
        range("most, least 5", 5, 999, NONE, (x, n) -> x.sound(0, 0, 0, 5, n));
        range("least and most alike", 0, 999, NONE, (x, n) -> x.sound(0, 0, 0, n, n));
    }

    private static void eveningAndNote() {
        range("evening in a YEAR", 0, 20, NONE, (x, n) -> x.evening(n, 1));
        range("evening of TONES", 0, 4095, NONE, (x, n) -> x.evening(1, n));
        range("note in a QUARTER", 0, 95, NONE, (x, n) -> x.note(n, 0, 0, 0));
        range("note at an EAR", 0, 2, NONE, (x, n) -> x.note(0, n, 0, 0));
        range("note of a TONE", 0, 11, NONE, (x, n) -> x.note(0, 0, n, 0));
        range("note give or take", 0, 99, NONE, (x, n) -> x.note(0, 0, 0, n));
    }

    private static void untellAndLater() {
        range("untell", 0, 2, NO, (x, n) -> bit(x.untell(n)));
        refused("UNTOLD already", SOME, (x, n) -> bit(x.untell(n)), 1, NO);
        range("later", 0, 1000, NONE, (x, n) -> x.later(n));
    }

    private static void sets() {
        range("sets by a QUARTER", 0, 95, OTHER, (x, n) -> x.sets(n, 0, 0, 7));
        range("sets by a WIND", 0, 20, OTHER, (x, n) -> x.sets(0, n, 0, 7));
        range("sets, what", 0, 5, OTHER, (x, n) -> x.sets(0, 0, n, 7));
    }

    private static void spring() {
        range("the first EAR", 0, 1, NO, (x, n) -> bit(x.spring(n, 1, 2, 1, 1)));
        range("the second EAR", 1, 2, NO, (x, n) -> bit(x.spring(0, 1, n, 1, 1)));
        range("the first PLACE", 0, 99, NO, (x, n) -> bit(x.spring(1, n, 0, 1, 1)));
        range("the second PLACE", 0, 99, NO, (x, n) -> bit(x.spring(1, 1, 0, n, 1)));
        range("the QUARTER", 0, 95, NO, (x, n) -> bit(x.spring(1, 1, 0, 1, n)));
        for (int ear = 0; ear < 3; ear++) {
            refused("an EAR and itself", SOME, (x, n) -> bit(x.spring(n, 1, n, 2, 1)), ear, NO);
        }
    }

    private static void partedAndCame() {
        range("parted in a WIND", 0, 20, OTHER, (x, n) -> x.parted(n, 0, 7));
        range("parted, what", 0, 4, OTHER, (x, n) -> x.parted(0, n, 7));
        range("the first STRANGER", 1, 1, OTHER, (x, n) -> x.came(n, 0, 0, 0, 7));
        range("the last STRANGER", 4, 4, OTHER, (x, n) -> x.came(n, 0, 0, 0, 7));
        range("came to a PLACE", 0, 99, OTHER, (x, n) -> x.came(1, n, 0, 0, 7));
        range("came in a WIND", 0, 20, OTHER, (x, n) -> x.came(1, 0, n, 0, 7));
        range("came, what", 0, 2, OTHER, (x, n) -> x.came(1, 0, 0, n, 7));
    }

    private static void rows() {
        range("lies", 0, 2, NONE, (x, n) -> x.lies(n));
        int[] wrong = {Integer.MIN_VALUE, -1, 0, 3, Integer.MAX_VALUE};
        for (int m : wrong) {
            ChordHerds x = States.some();
            Check.due("a row lies there", x.about(10), 3);
            Check.due("dealt(" + m + ")", x.dealt(m), NONE);
            Check.due("no row lies there then", x.about(10), 0);
            Check.due("nor has it a first", x.lies(0), NONE);
        }
        taken("dealt", SOME, (x, n) -> x.dealt(n), 1, NONE);
        taken("dealt", SOME, (x, n) -> x.dealt(n), 2, NONE);
    }

    private static void fresh() {
        range("fresh of a loudness", 1, 99, OTHER, (x, n) -> x.fresh(n, 0));
        range("fresh by neighbours", 0, 1, OTHER, (x, n) -> x.fresh(50, n));
        // a, b and c are BELLS 0, 2 and 3
        for (int bits = -3; bits < 70; bits++) {
            if (bits == (bits & 13)) {
                taken("neighbours", SOME, (x, n) -> x.fresh(50, n), bits, OTHER);
            } else {
                refused("neighbours", SOME, (x, n) -> x.fresh(50, n), bits, OTHER);
            }
        }
        refused("a far neighbour", SOME, (x, n) -> x.fresh(50, n), 1 | 1 << 31, OTHER);
        refused("a far neighbour", SOME, (x, n) -> x.fresh(50, n), 1 | 1 << 11, OTHER);
    }

    private static void imagesAndAbout() {
        range("image", 0, 2, NONE, (x, n) -> x.image(n));
        range("back", 1, 1, NONE, (x, n) -> x.back(n));
        range("about", 0, 10, NONE, (x, n) -> x.about(n));
    }

    private static void allThatIsFull() {
        refused("feed behind 1500", FULL, (x, n) -> x.feed(n, n, n, n, n), 0x3b3b3b3b, NONE);
        refused("end behind 1500", FULL, (x, n) -> x.end(n), 1501, NONE);
        refused("a SOUND behind 40 ENTRIES", FULL, (x, n) -> x.sound(n, 0, 0, 0, 0), 0, NONE);
        refused("an EVENING behind 40 ENTRIES", FULL, (x, n) -> x.evening(n, 0), 0, NONE);
        refused("a note behind 40 ENTRIES", FULL, (x, n) -> x.note(n, 0, 0, 0), 0, NONE);
        refused("untell behind 40 ENTRIES", FULL, (x, n) -> bit(x.untell(n)), 40, NO);
        taken("the last ENTRY", FULL, (x, n) -> bit(x.untell(n)), 39, NO);
        refused("first with 9 BEASTS", FULL, (x, n) -> x.first(n), 0, OTHER);
        refused("cracked with 9 BEASTS, no row", FULL, (x, n) -> x.cracked(n), 0, OTHER);
        refused("dealt with 9 BEASTS, no row", FULL, (x, n) -> x.dealt(n), 1, OTHER);
        refused("dealt with 9 BEASTS, no row", FULL, (x, n) -> x.dealt(n), 2, OTHER);
        refused("bell behind 11", FULL, (x, n) -> x.bell(n, 0), 11, OTHER);
        refused("comes behind 11", FULL, (x, n) -> bit(x.comes(n, true)), 11, NO);
        refused("crack behind 11", FULL, (x, n) -> x.crack(n, 1), 11, NONE);
        refused("hear behind 4 EARS", FULL, (x, n) -> x.hear(n, 0), 4, NONE);
        refused("chord behind 4 EARS", FULL, (x, n) -> x.chord(n), 4, NONE);
        refused("spring behind 4 EARS", FULL, (x, n) -> bit(x.spring(0, 0, n, 0, 0)), 4, NO);
        refused("a BOX behind 3", FULL, (x, n) -> x.image(n), 3, NONE);
        refused("back behind 3", FULL, (x, n) -> x.back(n), 3, NONE);
        refused("a STRANGER as neighbour", FULL, (x, n) -> x.fresh(50, n), 1 << 9, OTHER);
        taken("all BEASTS as neighbours", FULL, (x, n) -> x.fresh(50, n), (1 << 9) - 1, OTHER);
        taken("the last BELL", FULL, (x, n) -> x.bell(n, 0), 10, OTHER);
        taken("the last EAR", FULL, (x, n) -> x.chord(n), 3, NONE);
        taken("the last STRANGER", FULL, (x, n) -> x.came(n, 99, 20, 0, 0), 10, OTHER);
    }

    private static void theLastTimeAndYear() {
        refused("later at the last TIME", LATE, (x, n) -> x.later(n), 1, NONE);
        refused("later at the last TIME", LATE, (x, n) -> x.later(n), 1000, NONE);
        taken("later at the last TIME", LATE, (x, n) -> x.later(n), 0, NONE);
        refused("years at the last YEAR", LATE, (x, n) -> x.years(n), 1, NONE);
        refused("years at the last YEAR", LATE, (x, n) -> x.years(n), 20, NONE);
        taken("years at the last YEAR", LATE, (x, n) -> x.years(n), 0, NONE);
        ChordHerds x = States.late();
        Check.due("the last TIME", x.about(8), 100000);
        Check.due("the last YEAR", x.about(6), 200);
        Check.due("1 - 400 modulo 12", x.bell(0, 0), 9);
        Check.due("its SOUND counts at the last TIME", x.sets(0, 0, 0, 100000), 0);
        Check.due("not ahead of it", x.sets(0, 0, 0, 99999), 2);
    }

    private static void nothingAtAll() {
        int[] any = {Integer.MIN_VALUE, -1, 0, 1, Integer.MAX_VALUE};
        for (int i : any) {
            refused("bell", NEW, (x, n) -> x.bell(n, 0), i, OTHER);
            refused("hear", NEW, (x, n) -> x.hear(n, 0), i, NONE);
            refused("chord", NEW, (x, n) -> x.chord(n), i, NONE);
            refused("comes", NEW, (x, n) -> bit(x.comes(n, true)), i, NO);
            refused("goes", NEW, (x, n) -> bit(x.comes(n, false)), i, NO);
            refused("stand", NEW, (x, n) -> bit(x.stand(n, true)), i, NO);
            refused("stand no more", NEW, (x, n) -> bit(x.stand(n, false)), i, NO);
            refused("crack", NEW, (x, n) -> x.crack(n, 0), i, NONE);
            refused("sound", NEW, (x, n) -> x.sound(0, n, 0, 0, 0), i, NONE);
            refused("note", NEW, (x, n) -> x.note(0, n, 0, 0), i, NONE);
            refused("untell", NEW, (x, n) -> bit(x.untell(n)), i, NO);
            refused("spring", NEW, (x, n) -> bit(x.spring(n, 0, 1, 0, 0)), i, NO);
            refused("parted", NEW, (x, n) -> x.parted(0, n, 0), i, OTHER);
            refused("came", NEW, (x, n) -> x.came(n, 0, 0, 0, 0), i, OTHER);
            refused("lies", NEW, (x, n) -> x.lies(n), i, NONE);
            refused("back", NEW, (x, n) -> x.back(n), i, NONE);
        }
        int[] some = {Integer.MIN_VALUE, -1, 1, 2, Integer.MAX_VALUE};
        for (int i : some) {
            refused("end", NEW, (x, n) -> x.end(n), i, NONE);
            refused("neighbours", NEW, (x, n) -> x.fresh(50, n), i, OTHER);
        }
    }
}
