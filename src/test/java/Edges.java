import java.util.function.Consumer;
import java.util.function.ToIntFunction;

/** Checks that stand under a sentence of the document, which is told with each answer that is not as due. */
final class Edges {
    static final int LOW = Integer.MIN_VALUE;
    static final int HIGH = Integer.MAX_VALUE;
    private static final int HISTORY_INDEX = 11;

    private final Due due = new Due();
    private String sentence = "";

    /** The words of the document that the checks from here on belong to. */
    void sentence(String words) {
        sentence = words;
    }

    void is(String what, long want, long got) {
        due.is("\"" + sentence + "\" " + what, want, got);
    }

    void end(String test) {
        due.end(test);
    }

    // ---- pairs of objects, of which one has had a call more

    /** The call must answer so and leave all that the object tells as it was. */
    void changesNothing(String what, int answer, Consumer<WeakenedPages> run, ToIntFunction<WeakenedPages> call) {
        WeakenedPages with = new WeakenedPages();
        WeakenedPages without = new WeakenedPages();
        run.accept(with);
        run.accept(without);
        is(what + ": the answer", answer, call.applyAsInt(with));
        same(what, without, with, true);
    }

    /** The call must be recorded, and undo() must bring all of the state back. */
    void isAnAct(String what, int answer, Consumer<WeakenedPages> run, ToIntFunction<WeakenedPages> call) {
        WeakenedPages with = new WeakenedPages();
        WeakenedPages without = new WeakenedPages();
        run.accept(with);
        run.accept(without);
        int states = with.count(11);
        is(what + ": the answer", answer, call.applyAsInt(with));
        is(what + ": states", Math.min(states + 1, 4), with.count(11));
        with.undo();
        same(what + ", undone", without, with, false);
    }

    /** All that the two objects tell is the same (the number of states only if it is asked for). */
    void same(String what, WeakenedPages want, WeakenedPages got, boolean withHistory) {
        int[] wanted = told(want);
        int[] had = told(got);
        for (int index = 0; index < wanted.length; index++) {
            if (withHistory || index != HISTORY_INDEX) {
                is(what + ": told " + index, wanted[index], had[index]);
            }
        }
    }

    private static int[] told(WeakenedPages x) {
        int[] told = new int[420];
        int at = 0;
        for (int what = 0; what <= 12; what++) {
            told[at++] = x.count(what);
        }
        for (int page = 0; page < 24; page++) {
            for (int what = 0; what <= 5; what++) {
                told[at++] = x.page(page, what);
            }
        }
        for (int block = 0; block < 6; block++) {
            for (int what = 0; what <= 9; what++) {
                told[at++] = x.block(block, what);
            }
            for (int place = 0; place < 8; place++) {
                for (int what = 0; what <= 2; what++) {
                    told[at++] = x.place(block, place, what);
                }
            }
            told[at++] = x.marked(block);
        }
        for (int which = 0; which < 5; which++) {
            told[at++] = x.setting(which);
        }
        for (int back = 0; back < 8; back++) {
            for (int what = 0; what <= 2; what++) {
                told[at++] = x.erasure(back, what);
            }
        }
        for (int what = 0; what <= 2; what++) {
            told[at++] = x.refusal(what);
        }
        told[at] = x.quietIn();
        return told;
    }

    // ---- runs that many tests begin with

    static void text(WeakenedPages x, String text) {
        x.clearText();
        for (int index = 0; index < text.length(); index++) {
            x.type(text.charAt(index));
        }
    }

    static int perform(WeakenedPages x, String text) {
        text(x, text);
        return x.perform();
    }

    static void writes(WeakenedPages x, int first, int last) {
        for (int page = first; page <= last; page++) {
            x.write(page);
        }
    }

    /** Writes the pages 0, 1 .. 23, 0, 1 .. so often; eight fill a block, the last 24 are valid. */
    static void rounds(WeakenedPages x, int writes) {
        for (int round = 0; round < writes; round++) {
            x.write(round % 24);
        }
    }

    static void pass(WeakenedPages x, int ticks) {
        for (int left = ticks; left > 0; left -= 99) {
            x.pass(Math.min(99, left));
        }
    }

    /** A late tick of an object that is at tick 0 (99495 or later), with few calls. */
    static void toLateTick(WeakenedPages x, int tick) {
        text(x, "t99,t99,t99,t99,t99,t99,t99,t99,t99,t99,t99,t99,t99,t99,t99");
        for (int call = 0; call < 67; call++) {
            x.perform();
        }
        pass(x, tick - 67 * 15 * 99);
    }

    /** Blocks of one kind, each erased so often: the only page wanders, as it is old after each tick. */
    static WeakenedPages worn(int kind, int erasures) {
        WeakenedPages x = new WeakenedPages();
        for (int block = 0; block < 6; block++) {
            x.setKind(block, kind);
        }
        x.set(3, 0);
        x.write(0);
        x.set(1, 1);
        pass(x, 6 * erasures);
        x.set(1, 999);
        return x;
    }

    /** The blocks 2 to 4 are full of pages, 0 and 1 of stale places; the full block 4 is open, only 5 is free. */
    static void oneFree(WeakenedPages x) {
        x.set(3, 0);
        rounds(x, 40);
    }

    /** One page of block 4 has been moved to block 5, which is open then and has seven empty places; none is free. */
    static void noneFree(WeakenedPages x) {
        oneFree(x);
        x.mark(4, true);
        x.pass(1);
        x.mark(4, false);
    }

    /** Seven pages of block 3 have followed, its page 7 is left: none is free, and no place is empty in block 5. */
    static void noRoom(WeakenedPages x) {
        noneFree(x);
        x.mark(3, true);
        x.pass(7);
        x.mark(3, false);
    }

    /** The pages 0 to 2 are in block 0, of which 0 and 2 bear no more; none can be read or moved. */
    static void stuck(WeakenedPages x) {
        x.set(3, 0);
        writes(x, 0, 2);
        perform(x, "r1*99,r1");
    }
}
