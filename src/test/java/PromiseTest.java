/** Each promise of the document by hand: ordinary calls, the edges it names, and wrong arguments. */
public final class PromiseTest {
    private static final Due DUE = new Due();
    private static final int UNKNOWN = WeakenedPages.UNKNOWN;
    private static final int BAD_VALUE = WeakenedPages.BAD_VALUE;
    private static final int FULL = WeakenedPages.FULL;
    private static final int NOT_POSSIBLE = WeakenedPages.NOT_POSSIBLE;
    private static final int NONE = WeakenedPages.NONE;
    private static final int LOW = Integer.MIN_VALUE;
    private static final int HIGH = Integer.MAX_VALUE;

    public static void main(String[] args) {
        constants();
        newObject();
        set();
        setKind();
        mark();
        markByWeakeningAndAge();
        write();
        writeKeepsRoom();
        readWeakens();
        readFromBuffer();
        readMovesAtOnce();
        readIsRefused();
        forget();
        moveBlock();
        moveBlockNotPossible();
        moveOfTheOpenBlock();
        pass();
        passInOrder();
        passStops();
        lastTick();
        text();
        faults();
        perform();
        refusal();
        history();
        snapshot();
        page();
        block();
        place();
        marked();
        quietIn();
        erasure();
        count();
        setting();
        DUE.end("PromiseTest");
    }

    private static void is(String call, long want, long got) {
        DUE.is(call, want, got);
    }

    private static void writeAll(WeakenedPages x, int first, int last) {
        for (int page = first; page <= last; page++) {
            if (x.write(page) < 0) {
                is("write(" + page + ")", 0, -1);
            }
        }
    }

    private static int perform(WeakenedPages x, String text) {
        x.clearText();
        for (int index = 0; index < text.length(); index++) {
            x.type(text.charAt(index));
        }
        return x.perform();
    }

    private static void constants() {
        is("UNKNOWN", -1, UNKNOWN);
        is("BAD_VALUE", -2, BAD_VALUE);
        is("FULL", -3, FULL);
        is("NOT_POSSIBLE", -4, NOT_POSSIBLE);
        is("NONE", -5, NONE);
    }

    private static void newObject() {
        WeakenedPages x = new WeakenedPages();
        int[] kinds = {0, 0, 1, 1, 1, 2};
        int[] bears = {400, 400, 200, 200, 200, 100};
        for (int block = 0; block < 6; block++) {
            is("1: kind", kinds[block], x.block(block, 0));
            is("1: erasures", 0, x.block(block, 1));
            is("1: bears", bears[block], x.block(block, 2));
            is("1: free", 1, x.block(block, 7));
            for (int place = 0; place < 8; place++) {
                is("1: no page", NONE, x.place(block, place, 0));
                is("1: empty", 0, x.place(block, place, 1));
                is("1: weakening", 0, x.place(block, place, 2));
            }
        }
        for (int page = 0; page < 24; page++) {
            is("1: place of page", NONE, x.page(page, 0));
            is("1: not in the buffer", NONE, x.page(page, 4));
            is("1: reads", 0, x.page(page, 5));
        }
        int[] counts = {0, 0, 6, NONE, 0, 0, 0, 0, 0, 0, 0, 0, 0};
        for (int what = 0; what < counts.length; what++) {
            is("1: count(" + what + ")", counts[what], x.count(what));
        }
        is("1: undo", NONE, x.undo());
        is("1: restore", NONE, x.restore());
        is("1: refusal", NONE, x.refusal(0));
        is("1: erasure", NONE, x.erasure(0, 0));
    }

    private static void set() {
        WeakenedPages x = new WeakenedPages();
        int[] first = {75, 200, 1, 2, 1};
        int[] least = {10, 1, 0, 0, 0};
        int[] most = {100, 999, 8, 4, 1};
        for (int which = 0; which < 5; which++) {
            is("2: below the range", BAD_VALUE, x.set(which, least[which] - 1));
            is("2: above the range", BAD_VALUE, x.set(which, most[which] + 1));
            is("2: so already", NONE, x.set(which, first[which]));
            is("2: nothing is recorded", 0, x.count(11));
            is("2: least", first[which], x.set(which, least[which]));
            int before = x.setting(which);
            is("2: most", before, x.set(which, most[which]));
            is("2: is set", most[which], x.setting(which));
            is("2: undone", 1, x.undo());
            is("2: undone", 0, x.undo());
            is("2: as it was", first[which], x.setting(which));
        }
        is("2: unknown", UNKNOWN, x.set(5, 1));
        is("2: unknown", UNKNOWN, x.set(-1, 1));
        is("2: unknown ahead of a bad value", UNKNOWN, x.set(HIGH, LOW));
        bufferBecomesSmaller();
    }

    private static void bufferBecomesSmaller() {
        WeakenedPages x = new WeakenedPages();
        x.set(3, 4);
        writeAll(x, 0, 4);
        for (int page = 0; page < 4; page++) {
            x.read(page);
        }
        x.read(0);
        is("2: buffer", 4, x.count(9));
        is("2: smaller", 4, x.set(3, 2));
        is("2: two left", 2, x.count(9));
        is("2: the latest stays", 0, x.page(0, 4));
        is("2: the one before, too", 1, x.page(3, 4));
        is("2: the oldest left", NONE, x.page(1, 4));
        is("2: greater again", 2, x.set(3, 3));
        is("2: nothing comes back", 2, x.count(9));
        is("2: none", 3, x.set(3, 0));
        is("2: empty", 0, x.count(9));
    }

    private static void setKind() {
        WeakenedPages x = new WeakenedPages();
        is("3: previous kind", 0, x.setKind(0, 1));
        is("3: bears", 200, x.block(0, 2));
        is("3: previous kind", 1, x.setKind(0, 2));
        is("3: so already", NONE, x.setKind(0, 2));
        is("3: unknown", UNKNOWN, x.setKind(6, 7));
        is("3: unknown", UNKNOWN, x.setKind(-1, 0));
        is("3: bad kind", BAD_VALUE, x.setKind(0, 3));
        is("3: bad kind", BAD_VALUE, x.setKind(0, -1));
        x.write(0);
        is("3: bad kind ahead of not free", BAD_VALUE, x.setKind(0, 3));
        is("3: open", NOT_POSSIBLE, x.setKind(0, 1));
        is("3: not possible ahead of none", NOT_POSSIBLE, x.setKind(0, 2));
        is("3: move", 1, x.moveBlock(0));
        is("3: free again", 2, x.setKind(0, 0));
        is("3: erasures stay", 1, x.block(0, 1));
        is("3: bears 400 less 4", 396, x.block(0, 2));
    }

    private static void mark() {
        WeakenedPages x = new WeakenedPages();
        is("4: free", NOT_POSSIBLE, x.mark(0, true));
        is("4: free", NOT_POSSIBLE, x.mark(0, false));
        is("4: unknown", UNKNOWN, x.mark(6, true));
        is("4: unknown", UNKNOWN, x.mark(-1, false));
        writeAll(x, 0, 8);
        is("4: so already", NONE, x.mark(0, false));
        is("4: one", 1, x.mark(0, true));
        is("4: the open one, too", 2, x.mark(1, true));
        is("4: so already", NONE, x.mark(1, true));
        is("4: marked", 1, x.block(1, 6));
        is("4: by a call", 1, x.block(1, 9));
        is("4: taken back", 1, x.mark(0, false));
        is("4: not marked", 0, x.block(0, 6));
    }

    private static void markByWeakeningAndAge() {
        WeakenedPages x = new WeakenedPages();
        x.set(3, 0);
        writeAll(x, 0, 1);
        is("4: 74 reads", 1, perform(x, "r0*74"));
        is("4: 296 of 400 is below 75 percent", 0, x.block(0, 6));
        x.read(0);
        is("4: 300 of 400 is not", 1, x.block(0, 6));
        is("4: but not by a call", 0, x.block(0, 9));
        is("4: marked once", 1, x.mark(0, true));
        is("4: still marked without the call", 1, x.mark(0, false));
        x.set(0, 76);
        is("4: the threshold moves it", 0, x.block(0, 6));
        x.set(1, 5);
        x.set(2, 0);
        x.pass(4);
        is("4: not old", 0, x.block(0, 6));
        x.pass(1);
        is("4: old", 1, x.block(0, 6));
        x.write(0);
        is("4: page 1 is old still", 1, x.block(0, 6));
        x.forget(1);
        is("4: none is old", 0, x.block(0, 6));
    }

    private static void write() {
        WeakenedPages x = new WeakenedPages();
        is("5: unknown", UNKNOWN, x.write(24));
        is("5: unknown", UNKNOWN, x.write(-1));
        is("5: first", 0, x.write(23));
        is("5: second", 1, x.write(0));
        is("5: anew", 2, x.write(23));
        is("5: former place is stale", 2, x.place(0, 0, 1));
        is("5: holds none", NONE, x.place(0, 0, 0));
        is("5: new place", 23, x.place(0, 2, 0));
        x.read(23);
        is("5: in the buffer", 0, x.page(23, 4));
        is("5: written", 3, x.write(23));
        is("5: left the buffer", NONE, x.page(23, 4));
        is("5: weakening 0", 0, x.page(23, 1));
        is("5: weakening of the stale place stays", 1, x.place(0, 2, 2));
        writeAll(x, 1, 4);
        is("5: full, but open", 0, x.count(3));
        is("5: the next block", 8, x.write(5));
        is("5: open", 1, x.count(3));
        fewestErasures();
    }

    private static void fewestErasures() {
        WeakenedPages x = new WeakenedPages();
        x.write(0);
        x.moveBlock(0);
        x.moveBlock(1);
        is("5: blocks 0 and 1 were erased", 16, x.page(0, 0));
        writeAll(x, 1, 7);
        is("5: fewest erasures", 24, x.write(8));
    }

    private static void writeKeepsRoom() {
        WeakenedPages x = new WeakenedPages();
        for (int round = 0; round < 40; round++) {
            is("5: rounds", round, x.write(round % 24));
        }
        is("5: one free block", 1, x.count(2));
        is("5: would take the last", FULL, x.write(0));
        is("5: the open one stays", 4, x.count(3));
        is("5: nothing changed", 24, x.page(0, 0));
        is("5: a move may take it", 8, x.moveBlock(4));
        is("5: the last is open", 5, x.count(3));
        is("5: and one is free again", 1, x.count(2));
        is("5: block 5 is full", FULL, x.write(0));
        is("5: an erasure", 0, x.moveBlock(0));
        is("5: makes room", 0, x.write(0));
        openWithRoomButNoneFree();
    }

    private static void openWithRoomButNoneFree() {
        WeakenedPages x = new WeakenedPages();
        for (int round = 0; round < 40; round++) {
            x.write(round % 24);
        }
        x.set(2, 1);
        x.mark(4, true);
        is("5: one page is moved", 1, x.pass(1));
        is("5: into the last free block", 5, x.count(3));
        is("5: which has room", 1, x.block(5, 3));
        is("5: none is free", 0, x.count(2));
        is("5: so nothing is written", FULL, x.write(0));
        is("5: but moved", 1, x.pass(1));
    }

    private static void readWeakens() {
        WeakenedPages x = new WeakenedPages();
        x.set(3, 0);
        writeAll(x, 0, 7);
        is("6: read", 1, x.read(3));
        int[] due = {1, 2, 4, 1, 4, 2, 1, 1};
        for (int page = 0; page < 8; page++) {
            is("6: weakening of " + page, due[page], x.page(page, 1));
        }
        x.forget(4);
        x.read(3);
        is("6: a stale place stays", 4, x.place(0, 4, 2));
        is("6: others don't", 8, x.page(2, 1));
        WeakenedPages tired = new WeakenedPages();
        tired.setKind(0, 2);
        writeAll(tired, 0, 3);
        tired.read(0);
        int[] twice = {1, 8, 4, 2};
        for (int page = 0; page < 4; page++) {
            is("6: in a tired block " + page, twice[page], tired.page(page, 1));
        }
        is("6: unknown", UNKNOWN, x.read(24));
        is("6: unknown", UNKNOWN, x.read(LOW));
        is("6: never written", UNKNOWN, x.read(20));
        is("6: forgotten", UNKNOWN, x.read(4));
    }

    private static void readFromBuffer() {
        WeakenedPages x = new WeakenedPages();
        writeAll(x, 0, 3);
        is("6: place", 1, x.read(0));
        is("6: place", 1, x.read(1));
        is("6: buffer", 0, x.read(0));
        is("6: nothing weakens", 1 + 4, x.page(1, 1));
        is("6: the latest", 0, x.page(0, 4));
        is("6: place", 1, x.read(2));
        is("6: page 1 was the longest ago", NONE, x.page(1, 4));
        is("6: page 0 stays", 1, x.page(0, 4));
        is("6: reads", 4, x.count(5));
        is("6: from the buffer", 1, x.count(6));
        is("6: reads of page 0", 2, x.page(0, 5));
        is("6: a move leaves the buffer", 4, x.moveBlock(0));
        is("6: as it is", 0, x.page(2, 4));
        is("6: as it is", 1, x.page(0, 4));
        is("6: and counts no read", 4, x.count(5));
        is("6: not of the page", 1, x.page(2, 5));
    }

    private static void readMovesAtOnce() {
        WeakenedPages x = new WeakenedPages();
        x.set(3, 0);
        x.set(2, 0);
        writeAll(x, 0, 1);
        is("6: 100 reads", 2, perform(x, "r0,r1*99"));
        is("6: 397 of 400", 397, x.page(0, 1));
        is("6: none is left", 0, x.page(1, 3));
        is("6: moved first", 2, x.read(1));
        is("6: in another block", 8, x.page(0, 0));
        is("6: both", 9, x.page(1, 0));
        is("6: read at the new place", 1, x.page(1, 1));
        is("6: its neighbour weakens", 4, x.page(0, 1));
        is("6: two were moved", 2, x.count(7));
        is("6: erased", 1, x.count(8));
        is("6: it had 397, and 1 by its move", 398, x.erasure(0, 2));
        is("6: reads of places also by moves", 102, x.block(0, 8));
        is("6: a read of the new place", 1, x.block(1, 8));
        is("6: reads of pages", 101, x.count(5));
        is("6: four states", 4, x.count(11));
        is("6: one act", 3, x.undo());
        is("6: as it was", 0, x.page(0, 0));
        is("6: its weakening, too", 397, x.page(0, 1));
        x.set(3, 1);
        is("6: again", 2, x.read(1));
        is("6: it comes into the buffer", 0, x.page(1, 4));
        is("6: and is read from there", 0, x.read(1));
    }

    private static void readIsRefused() {
        WeakenedPages x = new WeakenedPages();
        x.set(3, 0);
        x.set(4, 0);
        writeAll(x, 0, 1);
        perform(x, "r0*99,r0");
        is("6: not at once", NOT_POSSIBLE, x.read(0));
        is("6: nothing was moved", 0, x.count(7));
        is("6: nor read", 100, x.count(5));
        WeakenedPages y = new WeakenedPages();
        y.set(3, 0);
        writeAll(y, 0, 2);
        perform(y, "r1*99,r1");
        is("6: a neighbour bears no more", 400, y.page(0, 1));
        is("6: the other one neither", 400, y.page(2, 1));
        int states = y.count(11);
        is("6: the first move is not allowed", NOT_POSSIBLE, y.read(1));
        is("6: nothing was moved", 1, y.page(1, 0));
        is("6: nothing was read", 100, y.block(0, 8));
        is("6: still open", 0, y.count(3));
        is("6: nothing is recorded", states, y.count(11));
        noRoomToMoveAtOnce();
        refusedAtTheNewPlace();
    }

    /** Each move would be allowed, but there are six empty places for seven pages. */
    private static void noRoomToMoveAtOnce() {
        WeakenedPages x = new WeakenedPages();
        x.set(3, 0);
        for (int round = 0; round < 40; round++) {
            x.write(round % 24);
        }
        x.mark(4, true);
        x.pass(2);
        x.mark(4, false);
        x.set(2, 0);
        is("6: six empty places", 2, x.block(5, 3));
        is("6: none is free", 0, x.count(2));
        x.forget(18);
        is("6: page 16", 16, x.place(2, 0, 0));
        is("6: 50 reads", 2, perform(x, "r16,r17*49"));
        is("6: 197 of 200", 197, x.page(16, 1));
        is("6: no room for seven", NOT_POSSIBLE, x.read(17));
        is("6: nothing was moved", 16, x.page(16, 0));
        is("8: no room for seven", NOT_POSSIBLE, x.moveBlock(2));
        is("8: only stale places", 0, x.moveBlock(0));
        is("6: now there is", 2, x.read(17));
        is("6: the last page", 0, x.page(23, 0));
    }

    /** The moves go, but in the block with the new place another page bears no more reads. */
    private static void refusedAtTheNewPlace() {
        WeakenedPages x = new WeakenedPages();
        x.set(3, 0);
        x.set(2, 0);
        x.setKind(1, 2);
        writeAll(x, 0, 1);
        for (int round = 0; round < 6; round++) {
            x.write(2);
        }
        x.write(3);
        is("6: page 3 is in a tired block", 8, x.page(3, 0));
        is("6: page 4 is beside it", 9, x.write(4));
        perform(x, "r3*12,r4*2");
        is("6: page 4 has 98 of 100", 98, x.page(4, 1));
        x.forget(2);
        perform(x, "r0,r1*99");
        is("6: page 0 has 397 of 400", 397, x.page(0, 1));
        is("6: page 1 would come two places from page 4", NOT_POSSIBLE, x.read(1));
        is("6: nothing was moved", 1, x.page(1, 0));
        is("6: nor counted", 0, x.count(7) + x.count(8));
        x.forget(4);
        is("6: without page 4 it goes", 2, x.read(1));
        is("6: there", 11, x.page(1, 0));
    }

    private static void forget() {
        WeakenedPages x = new WeakenedPages();
        is("7: never written", UNKNOWN, x.forget(0));
        is("7: unknown", UNKNOWN, x.forget(24));
        is("7: unknown", UNKNOWN, x.forget(-1));
        writeAll(x, 0, 1);
        x.read(1);
        is("7: one is left", 1, x.forget(1));
        is("7: stale", 2, x.place(0, 1, 1));
        is("7: left the buffer", 0, x.count(9));
        is("7: forgotten", UNKNOWN, x.forget(1));
        is("7: its reads stay", 1, x.page(1, 5));
        is("7: none is left", 0, x.forget(0));
        is("7: open all the same", 0, x.block(0, 7));
        is("7: undone", 3, x.undo());
        is("7: is back", 0, x.page(0, 0));
    }

    private static void moveBlock() {
        WeakenedPages x = new WeakenedPages();
        is("8: free", NOT_POSSIBLE, x.moveBlock(0));
        is("8: unknown", UNKNOWN, x.moveBlock(6));
        is("8: unknown", UNKNOWN, x.moveBlock(-1));
        writeAll(x, 0, 9);
        x.mark(0, true);
        x.forget(2);
        x.set(2, 0);
        is("8: seven pages", 7, x.moveBlock(0));
        is("8: from the lowest place on", 10, x.page(0, 0));
        is("8: the last one in the next block", 16, x.page(7, 0));
        is("8: free", 1, x.block(0, 7));
        is("8: all its places are empty", 0, x.place(0, 2, 1) + x.place(0, 7, 1));
        is("8: erased once", 1, x.block(0, 1));
        is("8: not marked", 0, x.block(0, 9));
        is("8: reads of places", 7, x.block(0, 8));
        is("8: moved", 7, x.count(7));
        x.pass(3);
        is("8: the age is that of the place", 3, x.page(7, 2));
        is("8: move it back", 1, x.moveBlock(2));
        is("8: young again", 0, x.page(7, 2));
        x.forget(7);
        is("8: without pages", 0, x.moveBlock(x.count(3)));
        is("8: none is open", NONE, x.count(3));
    }

    private static void moveBlockNotPossible() {
        WeakenedPages x = new WeakenedPages();
        x.set(3, 0);
        writeAll(x, 0, 2);
        perform(x, "r1*99,r1");
        is("8: not allowed", NOT_POSSIBLE, x.moveBlock(0));
        is("8: open all the same", 0, x.count(3));
        is("8: no read", 100, x.block(0, 8));
        x.forget(2);
        is("8: not yet", NOT_POSSIBLE, x.moveBlock(0));
        x.forget(0);
        is("8: alone it goes", 1, x.moveBlock(0));
        WeakenedPages y = new WeakenedPages();
        for (int round = 0; round < 40; round++) {
            y.write(round % 24);
        }
        y.mark(4, true);
        y.pass(1);
        is("8: seven pages into seven places", 7, y.moveBlock(4));
        is("8: full", 8, y.block(5, 3));
    }

    private static void moveOfTheOpenBlock() {
        WeakenedPages x = new WeakenedPages();
        writeAll(x, 0, 2);
        is("8: the open one", 3, x.moveBlock(0));
        is("8: another one is open", 1, x.count(3));
        is("8: places of the other", 8, x.page(0, 0));
        x.mark(1, true);
        x.pass(1);
        is("8: in a tick, too", 2, x.count(3));
        is("8: the former holds two", 2, x.block(1, 3));
    }

    private static void pass() {
        WeakenedPages x = new WeakenedPages();
        is("9: none", BAD_VALUE, x.pass(0));
        is("9: too many", BAD_VALUE, x.pass(100));
        is("9: negative", BAD_VALUE, x.pass(LOW));
        is("9: too many", BAD_VALUE, x.pass(HIGH));
        is("9: ticks", 0, x.pass(99));
        is("9: tick", 99, x.count(0));
        writeAll(x, 0, 4);
        x.mark(0, true);
        is("9: one a tick", 2, x.pass(2));
        x.set(2, 2);
        is("9: two a tick", 2, x.pass(1));
        is("9: one is left", 1, x.block(0, 3));
        is("9: the last one", 1, x.pass(1));
        is("9: erased in that tick", 103, x.erasure(0, 1));
        is("9: nothing more", 0, x.pass(99));
        x.set(2, 0);
        x.mark(1, true);
        is("9: without a budget", 0, x.pass(50));
        x.forget(0);
        x.forget(1);
        x.forget(2);
        x.forget(3);
        x.forget(4);
        is("9: not even erased", 0, x.pass(1));
        is("9: marked still", 1, x.block(1, 9));
        x.set(2, 1);
        is("9: erased", 0, x.pass(1));
        is("9: free", 1, x.block(1, 7));
        is("9: twice in all", 2, x.count(8));
    }

    private static void passInOrder() {
        WeakenedPages x = new WeakenedPages();
        x.set(3, 0);
        x.set(2, 0);
        x.setKind(1, 2);
        writeAll(x, 0, 16);
        perform(x, "r0*20");
        perform(x, "r8*3");
        is("9: 80 of 400", 80, x.page(1, 1));
        is("9: 24 of 100", 24, x.page(9, 1));
        x.mark(0, true);
        x.mark(1, true);
        is("9: 24 hundredths are ahead of 20", 1, x.marked(0));
        x.set(2, 1);
        x.pass(1);
        is("9: its lowest page", 2, x.page(8, 0) / 8);
        is("9: no other", 0, x.page(0, 0));
        x.mark(2, true);
        is("9: the third", 2, x.marked(2));
        emptyMarkedBlockTakesNoBudget();
    }

    private static void emptyMarkedBlockTakesNoBudget() {
        WeakenedPages x = new WeakenedPages();
        writeAll(x, 0, 8);
        for (int page = 0; page < 8; page++) {
            x.forget(page);
        }
        x.mark(0, true);
        x.mark(1, true);
        is("9: one page and two erasures", 1, x.pass(1));
        is("9: both", 2, x.count(8));
        is("9: the empty one first", 0, x.erasure(1, 0));
        is("9: both are free", 1, x.block(0, 7) * x.block(1, 7));
        is("9: moved after the erasure of block 0", 16, x.page(8, 0));
    }

    private static void passStops() {
        WeakenedPages x = new WeakenedPages();
        x.set(3, 0);
        x.set(2, 8);
        writeAll(x, 0, 2);
        perform(x, "r1*99,r1");
        is("9: marked", 1, x.block(0, 6));
        is("9: cannot be moved", 0, x.pass(1));
        is("9: but is not open any more", NONE, x.count(3));
        is("9: its pages stay", 3, x.block(0, 3));
        is("9: it is not free", 0, x.block(0, 7));
        is("9: the next page goes elsewhere", 8, x.write(3));
        x.mark(1, true);
        is("9: a block that cannot be moved ends the moving", 0, x.pass(3));
        x.forget(0);
        is("9: still not", 0, x.pass(1));
        x.forget(2);
        is("9: page 1 alone is not weak, page 3 goes", 1, x.pass(1));
        is("9: the other stays", 1, x.page(1, 0));
    }

    private static void lastTick() {
        WeakenedPages x = new WeakenedPages();
        String text = "t99,t99,t99,t99,t99,t99,t99,t99,t99,t99,t99,t99,t99,t99,t99";
        is("9: fifteen", 15, perform(x, text));
        for (int call = 1; call < 67; call++) {
            x.perform();
        }
        is("9: ticks", 67 * 1485, x.count(0));
        is("9: refused", NOT_POSSIBLE, x.perform());
        is("13: the sixth", 5, x.refusal(0));
        is("13: its error", NOT_POSSIBLE, x.refusal(1));
        is("13: no read", 0, x.refusal(2));
        is("9: nothing passed", 99495, x.count(0));
        for (int call = 0; call < 5; call++) {
            x.pass(99);
        }
        is("9: 99990", 99990, x.count(0));
        is("9: beyond", NOT_POSSIBLE, x.pass(10));
        is("9: a bad value comes first", BAD_VALUE, x.pass(100));
        is("9: the last one", 0, x.pass(9));
        is("9: 99999", 99999, x.count(0));
        is("9: no more", NOT_POSSIBLE, x.pass(1));
    }

    private static void text() {
        WeakenedPages x = new WeakenedPages();
        is("11: empty", 0, x.clearText());
        for (int length = 1; length <= 60; length++) {
            is("10: length", length, x.type(length % 2 == 0 ? 'x' : (char) 65535));
        }
        is("10: full", FULL, x.type('r'));
        is("10: length", 60, x.count(12));
        is("10: no act", 0, x.count(11));
        is("11: length", 60, x.clearText());
        is("11: empty", 0, x.count(12));
        is("10: from the front", 1, x.type('r'));
    }

    private static void faults() {
        String[] texts = {"", "x", "r", "r2", "r23", "r24", "r3", "r30", "r0", "r00", "r09", "w", "w9", "w23", "w24", "w1*",
            "t", "t0", "t1", "t10", "t99", "t100", "t1*2", "r1*", "r1*0", "r1*1", "r1*99", "r1*100", "r1*1*1", "r1,", ",r1",
            "r1,,r1", "r1 ", " r1", "R1", "r1;w1", "r1,w", "w1,r1*5,t2", "r-1", "r1*-1", "rr", "r1,t1,w24", "r*3", "r19*09"};
        int[] faults = {0, 0, 1, -1, -1, 2, -1, 2, -1, 2, 2, 1, -1, -1, 2, 2,
            1, 1, -1, -1, -1, 3, 2, 3, 3, -1, -1, 5, 4, 3, 0,
            3, 2, 0, 0, 2, 4, -1, 1, 3, 1, 8, 1, 4};
        for (int index = 0; index < texts.length; index++) {
            WeakenedPages x = new WeakenedPages();
            x.set(2, 0);
            writeAll(x, 0, 23);
            int answer = perform(x, texts[index]);
            int orders = texts[index].split(",").length;
            is("12: perform() of " + texts[index], faults[index] < 0 ? orders : -100 - faults[index], answer);
            is("12: no order was refused", NONE, x.refusal(0));
        }
        WeakenedPages x = new WeakenedPages();
        x.write(0);
        String twenty = "r0,r0,r0,r0,r0,r0,r0,r0,r0,r0,r0,r0,r0,r0,r0,r0,r0,r0,r0,r0";
        is("12: twenty orders", 20, perform(x, twenty));
        is("12: a comma behind them", -160, perform(x, twenty + ","));
        is("12: a sign above 255", -101, perform(x, "r" + (char) 304));
    }

    private static void perform() {
        WeakenedPages x = new WeakenedPages();
        is("12: three orders", 3, perform(x, "w3,r3*5,t7"));
        is("12: one act", 1, x.count(11));
        is("12: reads", 5, x.count(5));
        is("12: four from the buffer", 4, x.count(6));
        is("12: the tick", 7, x.count(0));
        is("12: the text stays", 10, x.count(12));
        is("12: again", 3, x.perform());
        is("12: in a new place", 1, x.page(3, 0));
        is("12: undone at once", 1, x.undo());
        is("12: as it was", 7, x.count(0));
        is("12: a fault changes nothing", -102, perform(x, "w5w6"));
        is("12: a fault behind an order, too", -104, perform(x, "w5,t0"));
        is("12: page 5", NONE, x.page(5, 0));
        is("12: a refusal neither", NOT_POSSIBLE, perform(x, "w5,t9,r6"));
        is("12: page 5", NONE, x.page(5, 0));
        is("12: the tick stays", 7, x.count(0));
        is("12: nothing is recorded", 1, x.count(11));
    }

    private static void refusal() {
        WeakenedPages x = new WeakenedPages();
        is("13: none", NONE, x.refusal(0));
        is("13: none", NONE, x.refusal(2));
        is("13: bad", BAD_VALUE, x.refusal(3));
        is("13: bad", BAD_VALUE, x.refusal(-1));
        x.set(3, 0);
        x.set(4, 0);
        writeAll(x, 0, 1);
        is("13: refused", NOT_POSSIBLE, perform(x, "w2,r0*90,r0*12"));
        is("13: the third", 2, x.refusal(0));
        is("13: its error", NOT_POSSIBLE, x.refusal(1));
        is("13: ten were done", 10, x.refusal(2));
        is("13: none of them is left", 0, x.page(0, 5));
        is("13: a fault leaves it", -102, perform(x, "w2w"));
        is("13: as it is", 2, x.refusal(0));
        is("13: a good text, too", 1, perform(x, "r0"));
        is("13: as it is", 10, x.refusal(2));
        x.undo();
        is("13: undo leaves it", 2, x.refusal(0));
        is("13: refused", NOT_POSSIBLE, perform(x, "r9"));
        is("13: the first", 0, x.refusal(0));
        is("13: its error", UNKNOWN, x.refusal(1));
        is("13: none was done", 0, x.refusal(2));
        WeakenedPages y = new WeakenedPages();
        for (int round = 0; round < 39; round++) {
            y.write(round % 24);
        }
        is("13: refused", NOT_POSSIBLE, perform(y, "w0,w1"));
        is("13: the second", 1, y.refusal(0));
        is("13: its error", FULL, y.refusal(1));
    }

    private static void history() {
        WeakenedPages x = new WeakenedPages();
        for (int page = 0; page < 5; page++) {
            x.write(page);
        }
        is("14: four states", 4, x.count(11));
        x.type('r');
        x.keep();
        x.write(24);
        x.set(0, 75);
        is("14: no other calls", 4, x.count(11));
        is("14: undo", 3, x.undo());
        is("14: page 4 is gone", NONE, x.page(4, 0));
        is("14: undo", 2, x.undo());
        is("14: undo", 1, x.undo());
        is("14: undo", 0, x.undo());
        is("14: page 0 stays", 1, x.count(1));
        is("14: empty", NONE, x.undo());
        is("14: the text stays", 1, x.count(12));
        is("14: the place is empty again", 0, x.place(0, 1, 1));
        is("14: from here on", 1, x.write(7));
        is("14: one state", 1, x.count(11));
        is("14: a read is an act", 1, x.read(7));
        is("14: from the buffer, too", 0, x.read(7));
        is("14: three states", 3, x.count(11));
        is("14: undo", 2, x.undo());
        is("14: reads", 1, x.count(5));
        is("14: undo", 1, x.undo());
        is("14: the buffer is empty", 0, x.count(9));
        everyActIsRecorded();
    }

    private static void everyActIsRecorded() {
        WeakenedPages x = new WeakenedPages();
        x.set(0, 50);
        x.setKind(1, 2);
        x.write(0);
        x.mark(0, true);
        is("14: four acts", 4, x.count(11));
        x.undo();
        is("14: the mark", 0, x.block(0, 9));
        x.undo();
        is("14: the page", 0, x.count(1));
        is("14: the open one", NONE, x.count(3));
        x.undo();
        is("14: the kind", 0, x.block(1, 0));
        x.undo();
        is("14: the setting", 75, x.setting(0));
        x.write(0);
        x.pass(3);
        x.moveBlock(0);
        x.forget(0);
        x.undo();
        is("14: the page is back", 8, x.page(0, 0));
        x.undo();
        is("14: the erasure", NONE, x.erasure(0, 0));
        is("14: the number of them", 0, x.block(0, 1) + x.count(8) + x.count(7) + x.block(0, 8));
        x.undo();
        is("14: the tick", 0, x.count(0));
    }

    private static void snapshot() {
        WeakenedPages x = new WeakenedPages();
        is("16: none", NONE, x.restore());
        x.pass(5);
        is("15: the tick", 5, x.keep());
        is("15: no act", 1, x.count(11));
        x.write(0);
        x.pass(7);
        is("16: the tick then", 5, x.restore());
        is("16: page 0 is gone", 0, x.count(1));
        is("16: an act", 4, x.count(11));
        is("14: undone", 3, x.undo());
        is("14: page 0 is back", 1, x.count(1));
        is("14: the tick is back", 12, x.count(0));
        is("16: it stays", 5, x.restore());
        is("16: and again", 5, x.restore());
        x.write(3);
        is("15: in place of it", 5, x.keep());
        x.forget(3);
        x.restore();
        is("16: the new one", 0, x.page(3, 0));
    }

    private static void page() {
        WeakenedPages x = new WeakenedPages();
        is("17: unknown", UNKNOWN, x.page(24, 9));
        is("17: unknown", UNKNOWN, x.page(-1, 0));
        is("17: bad", BAD_VALUE, x.page(0, 6));
        is("17: bad", BAD_VALUE, x.page(0, -1));
        for (int what = 0; what <= 4; what++) {
            is("17: no place", NONE, x.page(5, what));
        }
        x.set(3, 1);
        x.set(2, 0);
        writeAll(x, 0, 4);
        x.pass(3);
        x.write(2);
        x.pass(2);
        x.read(4);
        x.read(0);
        is("17: place", 5, x.page(2, 0));
        is("17: weakening", 4 + 1, x.page(2, 1));
        is("17: age", 2, x.page(2, 2));
        is("17: age", 5, x.page(1, 2));
        is("17: reads left of page 0", 98, x.page(0, 3));
        is("17: weakening of page 1", 5, x.page(1, 1));
        is("17: not in the buffer", NONE, x.page(4, 4));
        is("17: in the buffer", 0, x.page(0, 4));
        is("17: reads", 1, x.page(4, 5));
        is("17: age is of the reads free", 5, x.page(4, 2));
        WeakenedPages alone = new WeakenedPages();
        alone.write(9);
        is("17: alone it bears 400", 400, alone.page(9, 3));
        alone.read(9);
        is("17: one less", 399, alone.page(9, 3));
    }

    private static void block() {
        WeakenedPages x = new WeakenedPages();
        is("18: unknown", UNKNOWN, x.block(6, 99));
        is("18: unknown", UNKNOWN, x.block(-1, 0));
        is("18: bad", BAD_VALUE, x.block(0, 10));
        is("18: bad", BAD_VALUE, x.block(0, -1));
        writeAll(x, 0, 2);
        x.write(0);
        x.read(1);
        is("18: pages", 3, x.block(0, 3));
        is("18: stale", 1, x.block(0, 4));
        is("18: greatest", 4, x.block(0, 5));
        is("18: reads", 1, x.block(0, 8));
        x.forget(2);
        is("18: of pages only", 2, x.block(0, 5));
        is("18: stale", 2, x.block(0, 4));
        x.forget(0);
        x.forget(1);
        is("18: without one", 0, x.block(0, 5));
        bearing();
    }

    private static void bearing() {
        int[] first = {400, 200, 100};
        int[] loss = {4, 5, 10};
        for (int kind = 0; kind < 3; kind++) {
            WeakenedPages x = new WeakenedPages();
            for (int block = 0; block < 6; block++) {
                x.setKind(block, kind);
            }
            for (int turn = 0; turn < 66; turn++) {
                int open = turn % 6;
                is("18: erasures", turn / 6, x.block(open, 1));
                is("18: bears", Math.max(20, first[kind] - loss[kind] * (turn / 6)), x.block(open, 2));
                x.write(0);
                is("18: the fewest erasures", open, x.count(3));
                x.forget(0);
                is("18: erased", 0, x.moveBlock(open));
            }
        }
    }

    private static void place() {
        WeakenedPages x = new WeakenedPages();
        is("19: unknown block", UNKNOWN, x.place(6, 0, 9));
        is("19: unknown block", UNKNOWN, x.place(-1, 0, 0));
        is("19: unknown place", UNKNOWN, x.place(0, 8, 0));
        is("19: unknown place", UNKNOWN, x.place(0, -1, 0));
        is("19: bad", BAD_VALUE, x.place(0, 0, 3));
        is("19: bad", BAD_VALUE, x.place(0, 0, -1));
        writeAll(x, 0, 1);
        x.read(0);
        x.forget(1);
        is("19: page", 0, x.place(0, 0, 0));
        is("19: a page", 1, x.place(0, 0, 1));
        is("19: weakening", 1, x.place(0, 0, 2));
        is("19: none", NONE, x.place(0, 1, 0));
        is("19: stale", 2, x.place(0, 1, 1));
        is("19: weakening of the stale one", 4, x.place(0, 1, 2));
        is("19: empty", 0, x.place(0, 2, 1));
        is("19: weakening of an empty one", 0, x.place(0, 2, 2));
        x.moveBlock(0);
        is("19: weakening of an erased one", 0, x.place(0, 1, 2));
    }

    private static void marked() {
        WeakenedPages x = new WeakenedPages();
        is("20: none", NONE, x.marked(0));
        is("20: bad", BAD_VALUE, x.marked(-1));
        is("20: bad", BAD_VALUE, x.marked(LOW));
        is("20: none", NONE, x.marked(HIGH));
        x.set(3, 0);
        writeAll(x, 0, 23);
        x.mark(2, true);
        x.mark(0, true);
        x.mark(1, true);
        is("20: the lowest", 0, x.marked(0));
        is("20: the next", 1, x.marked(1));
        is("20: the last", 2, x.marked(2));
        is("20: no more", NONE, x.marked(3));
        x.read(8);
        is("20: 4 of 400 is one hundredth", 1, x.marked(0));
        x.read(16);
        is("20: 4 of 200 are two", 2, x.marked(0));
        is("20: then block 1", 1, x.marked(1));
        perform(x, "r0");
        is("20: as weak as block 1", 0, x.marked(1));
        is("20: rounded down", 1, x.marked(2));
        x.mark(2, false);
        is("20: not marked", 0, x.marked(0));
        is("20: two", 1, x.marked(1));
        is("20: no third", NONE, x.marked(2));
    }

    private static void quietIn() {
        WeakenedPages x = new WeakenedPages();
        is("21: none is marked", 0, x.quietIn());
        writeAll(x, 0, 4);
        x.mark(0, true);
        is("21: five ticks", 5, x.quietIn());
        is("21: no act", 4, x.count(11));
        is("21: nothing was moved", 0, x.count(7));
        x.set(2, 2);
        is("21: three ticks", 3, x.quietIn());
        x.set(2, 0);
        is("21: never", NONE, x.quietIn());
        x.set(2, 8);
        is("21: one tick", 1, x.quietIn());
        x.pass(1);
        is("21: that was it", 0, x.quietIn());
        x.set(2, 1);
        x.set(1, 1);
        is("21: none is old yet", 0, x.quietIn());
        x.pass(1);
        is("21: old ones come again and again", NONE, x.quietIn());
        x.set(2, 8);
        is("21: moved all, but the next are one tick old then", 1, x.quietIn());
        quietWhenStuck();
    }

    private static void quietWhenStuck() {
        WeakenedPages x = new WeakenedPages();
        x.set(3, 0);
        writeAll(x, 0, 2);
        perform(x, "r1*99,r1");
        is("21: stuck", NONE, x.quietIn());
        x.forget(2);
        x.forget(0);
        is("21: page 1 alone is not weak", 0, x.quietIn());
        is("21: 100 of 400", 100, x.page(1, 1));
    }

    private static void erasure() {
        WeakenedPages x = new WeakenedPages();
        is("22: none", NONE, x.erasure(0, 0));
        is("22: bad", BAD_VALUE, x.erasure(-1, 0));
        is("22: bad", BAD_VALUE, x.erasure(0, 3));
        is("22: bad", BAD_VALUE, x.erasure(0, -1));
        is("22: bad ahead of none", BAD_VALUE, x.erasure(9, 3));
        x.set(3, 0);
        writeAll(x, 0, 2);
        x.read(1);
        x.read(1);
        x.write(0);
        x.pass(4);
        is("22: moved", 3, x.moveBlock(0));
        is("22: the block", 0, x.erasure(0, 0));
        is("22: the tick", 4, x.erasure(0, 1));
        is("22: place 2 had 8, 4 by the first move, 1 by its own", 13, x.erasure(0, 2));
        x.forget(1);
        x.forget(2);
        for (int turn = 0; turn < 8; turn++) {
            x.pass(1);
            is("22: move", 1, x.moveBlock(x.count(3)));
        }
        is("22: nine in all", 9, x.count(8));
        is("22: the latest", 12, x.erasure(0, 1));
        is("22: its weakening", 1, x.erasure(0, 2));
        is("22: the eighth", 5, x.erasure(7, 1));
        is("22: the eighth block", 1, x.erasure(7, 0));
        is("22: the ninth is not kept", NONE, x.erasure(8, 1));
        is("22: far back", NONE, x.erasure(HIGH, 1));
    }

    private static void count() {
        WeakenedPages x = new WeakenedPages();
        is("23: bad", BAD_VALUE, x.count(13));
        is("23: bad", BAD_VALUE, x.count(-1));
        is("23: bad", BAD_VALUE, x.count(LOW));
        x.set(3, 1);
        writeAll(x, 0, 17);
        x.read(0);
        x.read(0);
        x.read(17);
        x.pass(2);
        x.mark(1, true);
        x.type('t');
        int[] due = {2, 18, 3, 2, 1, 3, 1, 0, 0, 1, 2, 4, 1};
        for (int what = 0; what < due.length; what++) {
            is("23: count(" + what + ")", due[what], x.count(what));
        }
        x.moveBlock(2);
        is("23: moved", 2, x.count(7));
        is("23: erased", 1, x.count(8));
        is("23: 4 of 400 are left", 1, x.count(10));
        is("23: open", 3, x.count(3));
    }

    private static void setting() {
        WeakenedPages x = new WeakenedPages();
        int[] first = {75, 200, 1, 2, 1};
        for (int which = 0; which < 5; which++) {
            is("24: first", first[which], x.setting(which));
        }
        is("24: unknown", UNKNOWN, x.setting(5));
        is("24: unknown", UNKNOWN, x.setting(-1));
        x.set(1, 999);
        is("24: set", 999, x.setting(1));
    }
}
