import java.util.LinkedHashMap;
import java.util.Map;
import java.util.function.Consumer;
import java.util.function.ToIntFunction;

/** Checks that stand under a sentence of the document, which is told with each answer that is not as due. */
final class Edges {
    static final int LOW = Integer.MIN_VALUE;
    static final int HIGH = Integer.MAX_VALUE;
    private static final String STATES = "count(11)";

    private final Due due = new Due();
    private String sentence = "";

    /** The words of the document that the checks from here on belong to. */
    void sentence(String words) {
        sentence = words;
    }

    void is(String what, long want, long got) {
        due.is("\"" + sentence + "\" " + what, want, got);
    }

    void end(String test) {
        due.end(test);
    }

    // ---- pairs of objects, of which one has had a call more

    /** The call must answer so and leave all that the object tells as it was. */
    void changesNothing(String what, int answer, Consumer<WeakenedPages> run, ToIntFunction<WeakenedPages> call) {
        WeakenedPages with = new WeakenedPages();
        WeakenedPages without = new WeakenedPages();
        run.accept(with);
        run.accept(without);
        is(what + ": the answer", answer, call.applyAsInt(with));
        same(what, without, with, true);
    }

    /** The call must answer so, be recorded once, and change only what is named here (label, new value, label ..). */
    void changesOnly(String what, int answer, Consumer<WeakenedPages> run, ToIntFunction<WeakenedPages> call,
        Object... changes) {
        WeakenedPages with = new WeakenedPages();
        WeakenedPages without = new WeakenedPages();
        run.accept(with);
        run.accept(without);
        is(what + ": the answer", answer, call.applyAsInt(with));
        Map<String, Integer> wanted = told(without);
        wanted.put(STATES, Math.min(wanted.get(STATES) + 1, 4));
        for (int index = 0; index < changes.length; index += 2) {
            is(what + ": there is " + changes[index], 1, wanted.containsKey(changes[index]) ? 1 : 0);
            wanted.put((String) changes[index], (Integer) changes[index + 1]);
        }
        compare(what, wanted, told(with));
    }

    /** The call must be recorded once, and undo() must bring all of the state back. */
    void isAnAct(String what, int answer, Consumer<WeakenedPages> run, ToIntFunction<WeakenedPages> call) {
        WeakenedPages with = new WeakenedPages();
        WeakenedPages without = new WeakenedPages();
        run.accept(with);
        run.accept(without);
        int states = with.count(11);
        is(what + ": the answer", answer, call.applyAsInt(with));
        is(what + ": states", Math.min(states + 1, 4), with.count(11));
        with.undo();
        same(what + ", undone", without, with, false);
        lastButOneIsUnderIt(what, run, call);
    }

    private void lastButOneIsUnderIt(String what, Consumer<WeakenedPages> run, ToIntFunction<WeakenedPages> call) {
        WeakenedPages with = new WeakenedPages();
        WeakenedPages without = new WeakenedPages();
        run.accept(with);
        run.accept(without);
        call.applyAsInt(with);
        with.undo();
        with.undo();
        without.undo();
        same(what + ", undone with the act ahead of it", without, with, false);
    }

    /** All that the two objects tell is the same (the number of states only if it is asked for). */
    void same(String what, WeakenedPages want, WeakenedPages got, boolean withHistory) {
        Map<String, Integer> wanted = told(want);
        if (!withHistory) {
            wanted.remove(STATES);
        }
        compare(what, wanted, told(got));
    }

    private void compare(String what, Map<String, Integer> wanted, Map<String, Integer> had) {
        for (Map.Entry<String, Integer> entry : wanted.entrySet()) {
            is(what + ": " + entry.getKey(), entry.getValue(), had.get(entry.getKey()));
        }
    }

    private static Map<String, Integer> told(WeakenedPages x) {
        Map<String, Integer> told = new LinkedHashMap<>();
        for (int what = 0; what <= 12; what++) {
            told.put("count(" + what + ")", x.count(what));
        }
        for (int page = 0; page < 24; page++) {
            for (int what = 0; what <= 5; what++) {
                told.put("page(" + page + ", " + what + ")", x.page(page, what));
            }
        }
        for (int block = 0; block < 6; block++) {
            for (int what = 0; what <= 9; what++) {
                told.put("block(" + block + ", " + what + ")", x.block(block, what));
            }
            for (int place = 0; place < 8; place++) {
                for (int what = 0; what <= 2; what++) {
                    told.put("place(" + block + ", " + place + ", " + what + ")", x.place(block, place, what));
                }
            }
            told.put("marked(" + block + ")", x.marked(block));
        }
        for (int which = 0; which < 5; which++) {
            told.put("setting(" + which + ")", x.setting(which));
        }
        for (int back = 0; back < 8; back++) {
            for (int what = 0; what <= 2; what++) {
                told.put("erasure(" + back + ", " + what + ")", x.erasure(back, what));
            }
        }
        for (int what = 0; what <= 2; what++) {
            told.put("refusal(" + what + ")", x.refusal(what));
        }
        told.put("quietIn()", x.quietIn());
        return told;
    }

    // ---- runs that many tests begin with

    static void text(WeakenedPages x, String text) {
        x.clearText();
        for (int index = 0; index < text.length(); index++) {
            x.type(text.charAt(index));
        }
    }

    static int perform(WeakenedPages x, String text) {
        text(x, text);
        return x.perform();
    }

    static void writes(WeakenedPages x, int first, int last) {
        for (int page = first; page <= last; page++) {
            x.write(page);
        }
    }

    /** Writes the pages 0, 1 .. 23, 0, 1 .. so often; eight fill a block, the last 24 are valid. */
    static void rounds(WeakenedPages x, int writes) {
        for (int round = 0; round < writes; round++) {
            x.write(round % 24);
        }
    }

    static void pass(WeakenedPages x, int ticks) {
        for (int left = ticks; left > 0; left -= 99) {
            x.pass(Math.min(99, left));
        }
    }

    /** Eleven pages, of which two are in the buffer, in tick 3; no block is marked, and the history is full. */
    static void busy(WeakenedPages x) {
        writes(x, 0, 10);
        x.pass(3);
        x.write(0);
        x.write(9);
        x.read(1);
        x.read(9);
    }

    /** A late tick of an object that is at tick 0 (99495 or later), with few calls. */
    static void toLateTick(WeakenedPages x, int tick) {
        text(x, "t99,t99,t99,t99,t99,t99,t99,t99,t99,t99,t99,t99,t99,t99,t99");
        for (int call = 0; call < 67; call++) {
            x.perform();
        }
        pass(x, tick - 67 * 15 * 99);
    }

    /** Blocks of one kind, each erased so often: the only page wanders, as it is old after each tick. */
    static WeakenedPages worn(int kind, int erasures) {
        WeakenedPages x = new WeakenedPages();
        for (int block = 0; block < 6; block++) {
            x.setKind(block, kind);
        }
        x.set(3, 0);
        x.write(0);
        x.set(1, 1);
        pass(x, 6 * erasures);
        x.set(1, 999);
        return x;
    }

    /** The blocks 2 to 4 are full of pages, 0 and 1 of stale places; the full block 4 is open, only 5 is free. */
    static void oneFree(WeakenedPages x) {
        x.set(3, 0);
        rounds(x, 40);
    }

    /** One page of block 4 has been moved to block 5, which is open then and has seven empty places; none is free. */
    static void noneFree(WeakenedPages x) {
        oneFree(x);
        x.mark(4, true);
        x.pass(1);
        x.mark(4, false);
    }

    /** Seven pages of block 3 have followed, its page 7 is left: none is free, and no place is empty in block 5. */
    static void noRoom(WeakenedPages x) {
        noneFree(x);
        x.mark(3, true);
        x.pass(7);
        x.mark(3, false);
    }

    /** The pages 0 to 2 are in block 0, of which 0 and 2 bear no more; none can be read or moved. */
    static void stuck(WeakenedPages x) {
        x.set(3, 0);
        writes(x, 0, 2);
        perform(x, "r1*99,r1");
    }
}
