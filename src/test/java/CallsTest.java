/** The sections "Promise 1" to "Promise 24": each sentence that names a boundary case has a test of its own. */
public final class CallsTest {
    private static final Edges EDGES = new Edges();
    private static final int UNKNOWN = WeakenedPages.UNKNOWN;
    private static final int BAD_VALUE = WeakenedPages.BAD_VALUE;
    private static final int FULL = WeakenedPages.FULL;
    private static final int NOT_POSSIBLE = WeakenedPages.NOT_POSSIBLE;
    private static final int NONE = WeakenedPages.NONE;
    private static final int[] OUTSIDE = {Edges.LOW, -2, -1};

    public static void main(String[] args) {
        newObject();
        set();
        setKind();
        mark();
        write();
        read();
        forget();
        moveBlock();
        pass();
        typeAndClear();
        perform();
        refusal();
        undoKeepRestore();
        page();
        block();
        place();
        marked();
        quietIn();
        erasure();
        count();
        setting();
        nothingElseChanges();
        EDGES.end("CallsTest");
    }

    private static void sentence(String words) {
        EDGES.sentence(words);
    }

    private static void is(String what, long want, long got) {
        EDGES.is(what, want, got);
    }

    // ---- Promise 1

    private static void newObject() {
        sentence("Creates an empty store.");
        WeakenedPages x = new WeakenedPages();
        int[] counts = {0, 0, 6, NONE, 0, 0, 0, 0, 0, 0, 0, 0, 0};
        for (int what = 0; what < counts.length; what++) {
            is("count(" + what + ")", counts[what], x.count(what));
        }
        for (int block = 0; block < 6; block++) {
            int[] due = {0, 0, 0, 0, 0, 0, 1, 0, 0};
            int[] whats = {1, 3, 4, 5, 6, 9, 7, 8, 1};
            for (int index = 0; index < due.length; index++) {
                is("block(" + block + ", " + whats[index] + ")", due[index], x.block(block, whats[index]));
            }
        }
        for (int page = 0; page < 24; page++) {
            for (int what = 0; what <= 4; what++) {
                is("page(" + page + ", " + what + ")", NONE, x.page(page, what));
            }
            is("page(" + page + ", 5)", 0, x.page(page, 5));
        }
    }

    // ---- Promise 2

    private static void set() {
        numbersOfSettings();
        smallerBuffer();
        previousValue();
    }

    private static void numbersOfSettings() {
        sentence("- `which`: 0 to 4");
        WeakenedPages x = new WeakenedPages();
        for (int which : OUTSIDE) {
            is("set(" + which + ")", UNKNOWN, x.set(which, 1));
        }
        is("set(5)", UNKNOWN, x.set(5, 1));
        is("set(most)", UNKNOWN, x.set(Edges.HIGH, 1));
        is("set(0)", 75, x.set(0, 74));
        is("set(4)", 1, x.set(4, 0));
    }

    private static void smallerBuffer() {
        sentence("Sets a setting; if the buffer becomes smaller, pages that were read the longest ago leave it.");
        for (int size = 0; size < 4; size++) {
            WeakenedPages x = new WeakenedPages();
            x.set(3, 4);
            Edges.writes(x, 0, 3);
            Edges.perform(x, "r0,r1,r2,r3,r1");
            is("from 4 to " + size, 4, x.set(3, size));
            is("so many stay", size, x.count(9));
            int[] latest = {1, 3, 2, 0};
            for (int rank = 0; rank < 4; rank++) {
                is("the latest but " + rank, rank < size ? rank : NONE, x.page(latest[rank], 4));
            }
            is("greater again", size, x.set(3, 4));
            is("nobody comes back", size, x.count(9));
        }
        WeakenedPages x = new WeakenedPages();
        Edges.writes(x, 0, 1);
        x.set(3, 4);
        Edges.perform(x, "r0,r1");
        is("smaller, but great enough", 4, x.set(3, 2));
        is("nobody leaves", 2, x.count(9));
        is("other settings change nothing in it", 1, x.set(4, 0));
        is("nobody leaves", 2, x.count(9));
    }

    private static void previousValue() {
        sentence("Returns the previous value; UNKNOWN; BAD_VALUE; NONE if it is so already.");
        WeakenedPages x = new WeakenedPages();
        is("the first value is 2", NONE, x.set(3, 2));
        is("previous", 2, x.set(3, 0));
        is("0 is a value, too", 0, x.set(3, 4));
        is("so already", NONE, x.set(3, 4));
        is("so already, but out of range", BAD_VALUE, x.set(3, 5));
    }

    // ---- Promise 3

    private static void setKind() {
        kinds();
        kindOfFreeBlocksOnly();
        erasuresStay();
    }

    private static void kinds() {
        sentence("- `kind`: 0 to 2");
        WeakenedPages x = new WeakenedPages();
        for (int kind : new int[] {Edges.LOW, -1, 3, 4, Edges.HIGH}) {
            is("kind " + kind, BAD_VALUE, x.setKind(0, kind));
        }
        int[] previous = {0, 1, 2};
        int[] next = {1, 2, 0};
        for (int turn = 0; turn < 3; turn++) {
            is("so already", NONE, x.setKind(0, previous[turn]));
            is("previous", previous[turn], x.setKind(0, next[turn]));
            is("now", next[turn], x.block(0, 0));
        }
        is("the last block", 2, x.setKind(5, 0));
    }

    private static void kindOfFreeBlocksOnly() {
        sentence("Returns the previous kind; UNKNOWN; BAD_VALUE; NOT_POSSIBLE if the block is not free; "
            + "NONE if it is so already.");
        WeakenedPages x = new WeakenedPages();
        Edges.rounds(x, 9);
        is("with pages", NOT_POSSIBLE, x.setKind(0, 1));
        is("open", NOT_POSSIBLE, x.setKind(1, 1));
        for (int page = 0; page < 9; page++) {
            x.forget(page);
        }
        is("with stale places", NOT_POSSIBLE, x.setKind(0, 1));
        is("open, with a stale place", NOT_POSSIBLE, x.setKind(1, 1));
        x.moveBlock(0);
        is("erased", 0, x.setKind(0, 1));
        is("always free", 1, x.setKind(2, 0));
    }

    private static void erasuresStay() {
        sentence("Makes a block one of another kind; its erasures stay.");
        WeakenedPages x = Edges.worn(0, 9);
        is("hard, 9 erasures", 400 - 36, x.block(1, 2));
        x.setKind(1, 1);
        is("soft, 9 erasures", 200 - 45, x.block(1, 2));
        x.setKind(1, 2);
        is("tired, 9 erasures", 20, x.block(1, 2));
        is("9", 9, x.block(1, 1));
        x.setKind(1, 0);
        is("hard again", 400 - 36, x.block(1, 2));
    }

    // ---- Promise 4

    private static void mark() {
        howManyAreMarked();
        markOfFreeBlocks();
        markIsSoAlready();
    }

    private static void howManyAreMarked() {
        sentence("Returns how many blocks are marked then; UNKNOWN; NOT_POSSIBLE if the block is free; "
            + "NONE if it is so already.");
        WeakenedPages x = new WeakenedPages();
        x.set(2, 0);
        Edges.stuck(x);
        Edges.writes(x, 3, 16);
        is("block 0 is weak", 1, x.count(4));
        is("and one by a call", 2, x.mark(1, true));
        is("the weak one is counted once", 2, x.mark(0, true));
        is("a third", 3, x.mark(2, true));
        is("the weak one without the call", 3, x.mark(0, false));
        is("two are left", 2, x.mark(2, false));
        is("one is left", 1, x.mark(1, false));
        WeakenedPages y = new WeakenedPages();
        y.write(0);
        y.mark(0, true);
        is("none is left", 0, y.mark(0, false));
        WeakenedPages all = new WeakenedPages();
        Edges.noneFree(all);
        for (int block = 0; block < 6; block++) {
            is("all six", block + 1, all.mark(block, true));
        }
    }

    private static void markOfFreeBlocks() {
        sentence("Returns how many blocks are marked then; UNKNOWN; NOT_POSSIBLE if the block is free; "
            + "NONE if it is so already.");
        WeakenedPages x = new WeakenedPages();
        is("free", NOT_POSSIBLE, x.mark(0, true));
        is("free, to take it back", NOT_POSSIBLE, x.mark(0, false));
        x.write(0);
        x.forget(0);
        is("a stale place", 1, x.mark(0, true));
        x.moveBlock(0);
        is("erased", NOT_POSSIBLE, x.mark(0, false));
        is("the last block", NOT_POSSIBLE, x.mark(5, true));
        is("behind it", UNKNOWN, x.mark(6, true));
    }

    private static void markIsSoAlready() {
        sentence("Marks a block by a call, or takes this mark back.");
        WeakenedPages x = new WeakenedPages();
        x.set(2, 0);
        Edges.stuck(x);
        is("not by a call yet", NONE, x.mark(0, false));
        is("marked, but not by a call", 1, x.mark(0, true));
        is("by a call already", NONE, x.mark(0, true));
        is("taken back", 1, x.mark(0, false));
        is("taken back already", NONE, x.mark(0, false));
    }

    // ---- Promise 5

    private static void write() {
        sentence("Returns the number of its place: 8 times the block plus the place; UNKNOWN; FULL if there is no room, or "
            + "no free block would be left.");
        WeakenedPages x = new WeakenedPages();
        for (int round = 0; round < 40; round++) {
            is("place", round, x.write(round % 24));
        }
        is("no free block would be left", FULL, x.write(0));
        x.moveBlock(0);
        for (int round = 0; round < 8; round++) {
            is("the last block", 40 + round, x.write(round));
        }
        is("block 0 again, but none would be left", FULL, x.write(0));
        WeakenedPages y = new WeakenedPages();
        Edges.noRoom(y);
        is("no room", FULL, y.write(0));
    }

    // ---- Promise 6

    private static void read() {
        answersOfRead();
        unknownPages();
        refusedReads();
    }

    private static void answersOfRead() {
        sentence("Returns 0 if it was in the buffer, 1 if its place was read, 2 if its block was moved first; UNKNOWN (also "
            + "if it was never written); NOT_POSSIBLE if the read is refused.");
        WeakenedPages x = new WeakenedPages();
        Edges.writes(x, 0, 1);
        is("its place", 1, x.read(1));
        is("the buffer", 0, x.read(1));
        x.set(3, 0);
        Edges.perform(x, "r1*98,r0");
        is("397 of 400", 397, x.page(0, 1));
        is("moved first", 2, x.read(1));
        is("then its place", 1, x.read(1));
    }

    private static void unknownPages() {
        sentence("Returns 0 if it was in the buffer, 1 if its place was read, 2 if its block was moved first; UNKNOWN (also "
            + "if it was never written); NOT_POSSIBLE if the read is refused.");
        WeakenedPages x = new WeakenedPages();
        for (int page = 0; page < 24; page++) {
            is("never written", UNKNOWN, x.read(page));
        }
        is("no page", UNKNOWN, x.read(24));
        x.write(7);
        x.undo();
        is("not written any more", UNKNOWN, x.read(7));
        x.write(7);
        x.read(7);
        x.forget(7);
        is("forgotten", UNKNOWN, x.read(7));
        x.write(7);
        is("written again", 1, x.read(7));
    }

    private static void refusedReads() {
        sentence("Returns 0 if it was in the buffer, 1 if its place was read, 2 if its block was moved first; UNKNOWN (also "
            + "if it was never written); NOT_POSSIBLE if the read is refused.");
        WeakenedPages x = new WeakenedPages();
        Edges.stuck(x);
        for (int page = 0; page <= 2; page++) {
            is("refused", NOT_POSSIBLE, x.read(page));
        }
        is("101 were done", 100, x.count(5));
        is("another block", 8, writeBehind(x));
        is("is read all the same", 1, x.read(9));
    }

    /** Fills block 0 and writes page 9 into the next one. */
    private static int writeBehind(WeakenedPages x) {
        for (int write = 0; write < 5; write++) {
            x.write(3);
        }
        return x.write(9);
    }

    // ---- Promise 7

    private static void forget() {
        sentence("Forgets a page: its place becomes stale, and it leaves the buffer.");
        WeakenedPages x = new WeakenedPages();
        Edges.writes(x, 0, 1);
        x.read(0);
        x.read(1);
        x.forget(0);
        is("stale", 2, x.place(0, 0, 1));
        is("left the buffer", NONE, x.page(0, 4));
        is("the other stays", 0, x.page(1, 4));
        is("no place", NONE, x.page(0, 0));
        sentence("Returns how many pages are left; UNKNOWN (also if it was never written, or is forgotten).");
        is("forgotten", UNKNOWN, x.forget(0));
        is("never written", UNKNOWN, x.forget(2));
        is("no page", UNKNOWN, x.forget(-1));
        is("no page", UNKNOWN, x.forget(24));
        is("none is left", 0, x.forget(1));
        WeakenedPages all = new WeakenedPages();
        Edges.rounds(all, 24);
        for (int page = 0; page < 24; page++) {
            is("of all", 23 - page, all.forget(page));
        }
        is("written again", 24, all.write(23));
        is("and forgotten again", 0, all.forget(23));
    }

    // ---- Promise 8

    private static void moveBlock() {
        howManyWereMoved();
        moveNotPossible();
        roomForExactlyAll();
    }

    private static void howManyWereMoved() {
        sentence("Moves a block as a whole, budgets do not matter, and erases it.");
        for (int pages = 0; pages <= 8; pages++) {
            WeakenedPages x = new WeakenedPages();
            x.set(2, 0);
            Edges.rounds(x, 9);
            for (int page = 0; page < 8 - pages; page++) {
                x.forget(page);
            }
            is("pages", pages, x.moveBlock(0));
            is("moved so far", pages, x.count(7));
            is("erased", 1, x.block(0, 7));
            is("erased once", 1, x.count(8));
        }
    }

    private static void moveNotPossible() {
        sentence("Returns how many pages were moved; UNKNOWN; NOT_POSSIBLE if the block is free, there is no room for all "
            + "its pages, or any of these moves is not allowed when its turn comes.");
        WeakenedPages x = new WeakenedPages();
        for (int block = 0; block < 6; block++) {
            is("free", NOT_POSSIBLE, x.moveBlock(block));
        }
        Edges.stuck(x);
        is("the first is not allowed", NOT_POSSIBLE, x.moveBlock(0));
        x.forget(0);
        is("the new first would weaken page 2", NOT_POSSIBLE, x.moveBlock(0));
        x.forget(2);
        is("alone it may be moved", 1, x.moveBlock(0));
        moveOfTheLastNotAllowed();
    }

    private static void moveOfTheLastNotAllowed() {
        WeakenedPages x = new WeakenedPages();
        x.set(3, 0);
        Edges.writes(x, 0, 1);
        x.write(2);
        Edges.perform(x, "r1*98,r2*2");
        is("page 2 has 394 of 400", 394, x.page(2, 1));
        is("and gets 2 and 4 and 1", NOT_POSSIBLE, x.moveBlock(0));
        WeakenedPages y = new WeakenedPages();
        y.set(3, 0);
        Edges.writes(y, 0, 2);
        Edges.perform(y, "r1*98,r2");
        is("page 2 has 393 of 400", 393, y.page(2, 1));
        is("and gets 2 and 4 and 1", 3, y.moveBlock(0));
    }

    private static void roomForExactlyAll() {
        sentence("Returns how many pages were moved; UNKNOWN; NOT_POSSIBLE if the block is free, there is no room for all "
            + "its pages, or any of these moves is not allowed when its turn comes.");
        WeakenedPages x = new WeakenedPages();
        Edges.noneFree(x);
        is("eight pages, seven places", NOT_POSSIBLE, x.moveBlock(3));
        x.forget(0);
        is("seven pages, seven places", 7, x.moveBlock(3));
        is("the last place", 47, x.page(7, 0));
        is("eight pages, one free block", 8, x.moveBlock(2));
        is("in the block that was erased", 3, x.count(3));
    }

    // ---- Promise 9

    private static void pass() {
        sentence("- `ticks`: 1 to 99");
        WeakenedPages x = new WeakenedPages();
        for (int ticks : new int[] {Edges.LOW, -1, 0, 100, 101, Edges.HIGH}) {
            is("pass(" + ticks + ")", BAD_VALUE, x.pass(ticks));
        }
        is("pass(1)", 0, x.pass(1));
        is("pass(99)", 0, x.pass(99));
        is("the tick", 100, x.count(0));
        movedInTheTicks();
        lastTick();
    }

    private static void movedInTheTicks() {
        sentence("Returns how many pages are moved in them; BAD_VALUE; NOT_POSSIBLE if the tick would be more than 99999.");
        WeakenedPages x = new WeakenedPages();
        x.setKind(5, 0);
        x.set(2, 8);
        x.set(1, 1);
        Edges.writes(x, 0, 7);
        is("eight in each of 99", 792, x.pass(99));
        is("so far", 792, x.count(7));
        is("erasures", 99, x.count(8));
        is("one tick", 8, x.pass(1));
    }

    private static void lastTick() {
        sentence("Returns how many pages are moved in them; BAD_VALUE; NOT_POSSIBLE if the tick would be more than 99999.");
        WeakenedPages x = new WeakenedPages();
        Edges.toLateTick(x, 99990);
        is("the tick", 99990, x.count(0));
        is("100000", NOT_POSSIBLE, x.pass(10));
        is("100089", NOT_POSSIBLE, x.pass(99));
        is("99999", 0, x.pass(9));
        is("100000", NOT_POSSIBLE, x.pass(1));
        is("in an order, too", NOT_POSSIBLE, Edges.perform(x, "t1"));
        is("its error", NOT_POSSIBLE, x.refusal(1));
        is("the tick stays", 99999, x.count(0));
        is("nothing is recorded: ahead of the latest act", 3, x.undo());
        is("the tick", 99990, x.count(0));
        is("99999 again", 0, x.pass(9));
        is("keep() tells it", 99999, x.keep());
    }

    // ---- Promises 10 and 11

    private static void typeAndClear() {
        sentence("Returns the length of the text then; FULL if it has 60 characters.");
        WeakenedPages x = new WeakenedPages();
        for (int length = 1; length <= 60; length++) {
            is("type", length, x.type((char) (length * 1000)));
        }
        is("full", FULL, x.type('r'));
        is("full", FULL, x.type((char) 0));
        sentence("Returns the length that it had.");
        is("60", 60, x.clearText());
        is("empty", 0, x.clearText());
        sentence("Types a character behind the text.");
        is("any character", 1, x.type((char) 0));
        is("any character", 2, x.type((char) 65535));
        is("two", 2, x.clearText());
        x.write(1);
        x.type('r');
        x.type('1');
        is("in their order", 1, x.perform());
        x.type('2');
        is("behind", NOT_POSSIBLE, x.perform());
        is("page 12 was asked for", UNKNOWN, x.refusal(1));
    }

    // ---- Promise 12

    private static void perform() {
        allOrNone();
        oneAct();
        eachReadCounts();
        refusedWhenItsTurnComes();
        numberOfOrders();
    }

    private static void allOrNone() {
        sentence("Performs the orders of the text, which stays, one after the other; all of them, or none.");
        WeakenedPages x = new WeakenedPages();
        is("all", 3, Edges.perform(x, "w5,t3,r5"));
        is("written ahead of the ticks", 3, x.page(5, 2));
        is("read", 1, x.page(5, 5));
        is("the text stays", 8, x.count(12));
        is("and can be performed again", 3, x.perform());
        is("twice", 2, x.page(5, 5));
        EDGES.changesNothing("the last order is refused, again", NOT_POSSIBLE, y -> {
            Edges.text(y, "w5,w6,t3,r5*9,r7");
            y.perform();
        }, y -> y.perform());
        EDGES.changesNothing("the last read of the last order is refused, again", NOT_POSSIBLE, y -> {
            y.set(3, 0);
            y.set(4, 0);
            Edges.writes(y, 0, 1);
            Edges.text(y, "t3,r0*99,r0*2");
            y.perform();
        }, y -> y.perform());
    }

    private static void oneAct() {
        sentence("This is one act.");
        WeakenedPages x = new WeakenedPages();
        x.pass(1);
        Edges.perform(x, "w0,w1,w2,w3,w4,w5,t9,r0*9");
        is("two states", 2, x.count(11));
        x.undo();
        is("all are undone", 0, x.count(1));
        is("the tick, too", 1, x.count(0));
        is("one state", 1, x.count(11));
    }

    private static void eachReadCounts() {
        sentence("An order whose method (read, write, pass) would return an error is refused; of a read that is done "
            + "several times each one counts.");
        WeakenedPages x = new WeakenedPages();
        x.write(0);
        is("one order", 1, Edges.perform(x, "r0*99"));
        is("99 reads", 99, x.count(5));
        is("98 of them from the buffer", 98, x.count(6));
        WeakenedPages y = new WeakenedPages();
        y.set(3, 0);
        y.set(4, 0);
        Edges.writes(y, 0, 1);
        is("the 100th is allowed", 2, Edges.perform(y, "r0*99,r0*1"));
        y.undo();
        is("the 101st is not", NOT_POSSIBLE, Edges.perform(y, "r0*2,r0*99"));
        is("98 were done of the second order", 98, y.refusal(2));
    }

    private static void refusedWhenItsTurnComes() {
        sentence("Returns how many orders there are; -100 minus the fault of the text if it has one (which is an error); "
            + "NOT_POSSIBLE if any order is refused when its turn comes.");
        WeakenedPages x = new WeakenedPages();
        is("written when its turn comes", 2, Edges.perform(x, "w5,r5"));
        is("not written yet", NOT_POSSIBLE, Edges.perform(x, "r6,w6"));
        WeakenedPages y = new WeakenedPages();
        Edges.rounds(y, 38);
        is("two places are left", 2, Edges.perform(y, "w0,w1"));
        y.undo();
        is("not three", NOT_POSSIBLE, Edges.perform(y, "w0,w1,w2"));
        is("the third", 2, y.refusal(0));
        is("FULL", FULL, y.refusal(1));
        y.mark(0, true);
        is("but after a tick that erases a block", 4, Edges.perform(y, "w0,w1,t1,w2"));
    }

    private static void numberOfOrders() {
        sentence("Returns how many orders there are; -100 minus the fault of the text if it has one (which is an error); "
            + "NOT_POSSIBLE if any order is refused when its turn comes.");
        WeakenedPages x = new WeakenedPages();
        for (int orders = 1; orders <= 20; orders++) {
            is("with a comma at the end", -100 - x.count(12), x.perform());
            x.type('t');
            x.type('1');
            is("orders", orders, x.perform());
            x.type(',');
        }
        is("ticks", 210, x.count(0));
        EDGES.changesNothing("a fault at the end", -104, y -> Edges.text(y, "w5,t0"), y -> y.perform());
    }

    // ---- Promise 13

    private static void refusal() {
        sentence("Returns the number (an error as it is, below 0); BAD_VALUE; NONE if no order was refused yet.");
        WeakenedPages x = new WeakenedPages();
        for (int what = 0; what <= 2; what++) {
            is("none yet", NONE, x.refusal(what));
        }
        is("a fault", -100, x.perform());
        is("is no refusal", NONE, x.refusal(0));
        for (int what : new int[] {Edges.LOW, -1, 3, Edges.HIGH}) {
            is("bad", BAD_VALUE, x.refusal(what));
        }
        numberOfTheOrder();
        timesOfTheRead();
        latestRefusal();
    }

    private static void numberOfTheOrder() {
        sentence("- `what`: 0 for the number of the order in its text, from 0, 1 for the error that the method would have "
            + "returned, 2 for how many times the read was done ahead of that (0 for other orders)");
        StringBuilder ahead = new StringBuilder();
        for (int order = 0; order < 20; order++) {
            WeakenedPages x = new WeakenedPages();
            is("refused", NOT_POSSIBLE, Edges.perform(x, ahead + "r5"));
            is("the number", order, x.refusal(0));
            is("the error", UNKNOWN, x.refusal(1));
            is("none was done", 0, x.refusal(2));
            ahead.append("t1,");
        }
        WeakenedPages full = new WeakenedPages();
        Edges.rounds(full, 40);
        Edges.perform(full, "r0*9,w0");
        is("a write", 1, full.refusal(0));
        is("its error", FULL, full.refusal(1));
        is("not the reads of another order", 0, full.refusal(2));
    }

    private static void timesOfTheRead() {
        sentence("- `what`: 0 for the number of the order in its text, from 0, 1 for the error that the method would have "
            + "returned, 2 for how many times the read was done ahead of that (0 for other orders)");
        for (int done = 0; done <= 4; done++) {
            WeakenedPages x = new WeakenedPages();
            x.set(3, 0);
            x.set(4, 0);
            Edges.writes(x, 0, 1);
            Edges.perform(x, "r0*" + (96 - done));
            is("refused", NOT_POSSIBLE, Edges.perform(x, "r0*4,r0*" + (done + 1)));
            is("its order", 1, x.refusal(0));
            is("its error", NOT_POSSIBLE, x.refusal(1));
            is("done ahead", done, x.refusal(2));
        }
    }

    private static void latestRefusal() {
        sentence("Tells of the latest refusal of perform().");
        WeakenedPages x = new WeakenedPages();
        Edges.perform(x, "t1,r5");
        is("the first", 1, x.refusal(0));
        Edges.perform(x, "t1");
        is("not of the latest perform()", 1, x.refusal(0));
        Edges.perform(x, "x");
        is("nor of the latest fault", 1, x.refusal(0));
        x.read(9);
        x.undo();
        is("nor of other calls", 1, x.refusal(0));
        Edges.perform(x, "r5");
        is("the second", 0, x.refusal(0));
    }

    // ---- Promises 14 to 16

    private static void undoKeepRestore() {
        sentence("Returns the number of states that are left; NONE if the history is empty.");
        WeakenedPages x = new WeakenedPages();
        is("empty", NONE, x.undo());
        x.pass(1);
        is("none is left", 0, x.undo());
        is("empty again", NONE, x.undo());
        Edges.rounds(x, 9);
        for (int left = 3; left >= 0; left--) {
            is("left", left, x.undo());
        }
        is("empty", NONE, x.undo());
        is("the states that were dropped don't come back", 5, x.count(1));
        keep();
        restore();
    }

    private static void keep() {
        sentence("Takes a snapshot of the state, in place of the one that was.");
        WeakenedPages x = new WeakenedPages();
        is("the tick", 0, x.keep());
        x.write(0);
        x.pass(2);
        is("the tick", 2, x.keep());
        x.forget(0);
        is("the second one", 2, x.restore());
        is("has page 0", 1, x.count(1));
        x.undo();
        x.undo();
        x.undo();
        is("undo() brings no former one", 2, x.restore());
        is("an act", 2, x.count(11));
    }

    private static void restore() {
        sentence("Restores the state of the snapshot, which stays.");
        WeakenedPages x = new WeakenedPages();
        is("none", NONE, x.restore());
        is("still none", NONE, x.restore());
        x.pass(3);
        x.keep();
        is("the same state again", 3, x.restore());
        is("is an act, too", 2, x.count(11));
        for (int turn = 0; turn < 5; turn++) {
            x.pass(7);
            is("the tick then", 3, x.restore());
        }
        is("undo", 3, x.undo());
        is("the tick ahead of it", 10, x.count(0));
        sentence("Returns the tick then; NONE if there is no snapshot.");
        WeakenedPages zero = new WeakenedPages();
        zero.keep();
        zero.pass(1);
        is("tick 0 is an answer", 0, zero.restore());
    }

    // ---- Promise 17

    private static void page() {
        numbersOfPage();
        placeAndAge();
        readsLeft();
        rankInTheBuffer();
        readsSoFar();
    }

    private static void numbersOfPage() {
        sentence("Returns the number; UNKNOWN (no page 0 to 23); BAD_VALUE; NONE for 0 to 3 if it has no place.");
        WeakenedPages x = new WeakenedPages();
        for (int what = 0; what <= 5; what++) {
            is("page 23", what == 5 ? 0 : NONE, x.page(23, what));
            is("page 24", UNKNOWN, x.page(24, what));
            is("page -1", UNKNOWN, x.page(-1, what));
        }
        x.write(23);
        int[] due = {0, 0, 0, 400, NONE, 0};
        for (int what = 0; what <= 5; what++) {
            is("written", due[what], x.page(23, what));
        }
        x.read(23);
        x.forget(23);
        for (int what = 0; what <= 4; what++) {
            is("forgotten", NONE, x.page(23, what));
        }
        for (int what : new int[] {Edges.LOW, -1, 6, Edges.HIGH}) {
            is("bad", BAD_VALUE, x.page(23, what));
        }
    }

    private static void placeAndAge() {
        sentence("- `what`: 0 for the number of its place, 1 for its weakening, 2 for its age in ticks,");
        WeakenedPages x = new WeakenedPages();
        x.set(2, 0);
        x.write(0);
        is("in the same tick", 0, x.page(0, 2));
        Edges.pass(x, 1500);
        is("as old as the tick", 1500, x.page(0, 2));
        Edges.rounds(x, 8);
        is("written again", 0, x.page(0, 2));
        is("place 1 of block 0", 1, x.page(0, 0));
        is("place 0 of block 1", 8, x.page(7, 0));
    }

    private static void readsLeft() {
        sentence("3 for how many reads of its place are left (until one must not be done, if nothing else is done and "
            + "nothing is moved),");
        WeakenedPages alone = new WeakenedPages();
        alone.write(0);
        countDown(alone, 0, 400);
        WeakenedPages two = new WeakenedPages();
        Edges.writes(two, 0, 1);
        two.read(1);
        countDown(two, 0, 99);
        WeakenedPages apart = new WeakenedPages();
        Edges.writes(apart, 0, 2);
        apart.forget(1);
        countDown(apart, 2, 200);
        WeakenedPages tired = new WeakenedPages();
        tired.setKind(0, 2);
        Edges.writes(tired, 0, 1);
        countDown(tired, 1, 12);
        WeakenedPages far = new WeakenedPages();
        far.setKind(0, 2);
        Edges.writes(far, 0, 3);
        far.forget(1);
        far.forget(2);
        countDown(far, 0, 50);
        WeakenedPages worn = Edges.worn(2, 9);
        countDown(worn, 0, 20);
        readsLeftOfThePlace();
    }

    /** So many reads are told, each makes them one less, and behind the last one the place must not be read. */
    private static void countDown(WeakenedPages x, int page, int reads) {
        x.set(3, 0);
        x.set(4, 0);
        for (int left = reads; left > 0; left--) {
            if (left == reads || left < 50) {
                is("left", left, x.page(page, 3));
            }
            is("allowed", 1, x.read(page));
        }
        is("none is left", 0, x.page(page, 3));
        is("not allowed", NOT_POSSIBLE, x.read(page));
    }

    private static void readsLeftOfThePlace() {
        WeakenedPages x = new WeakenedPages();
        Edges.writes(x, 0, 1);
        x.read(0);
        is("of its place, though it is in the buffer", 99, x.page(0, 3));
        x.read(0);
        is("which a read from the buffer leaves", 99, x.page(0, 3));
        WeakenedPages y = new WeakenedPages();
        Edges.stuck(y);
        is("none, though its block could be moved at once", 0, y.page(1, 3));
        is("none", 0, y.page(0, 3));
        WeakenedPages zero = new WeakenedPages();
        zero.set(3, 0);
        Edges.writes(zero, 0, 1);
        Edges.perform(zero, "r1*99");
        is("1 at its own place is allowed", 1, zero.page(1, 3));
        is("4 times, as page 0 has 396", 4, zero.page(0, 3));
    }

    private static void rankInTheBuffer() {
        sentence("4 for its place in the buffer (0 for the page that was read the latest; NONE if it is not there),");
        WeakenedPages x = new WeakenedPages();
        x.set(3, 4);
        Edges.writes(x, 0, 4);
        Edges.perform(x, "r0,r1,r2,r3,r4,r2");
        int[] due = {NONE, 3, 0, 2, 1};
        for (int page = 0; page <= 4; page++) {
            is("page " + page, due[page], x.page(page, 4));
        }
        is("never written", NONE, x.page(9, 4));
    }

    private static void readsSoFar() {
        sentence("5 for how often it was read so far (also from the buffer)");
        WeakenedPages x = new WeakenedPages();
        Edges.writes(x, 0, 1);
        is("never", 0, x.page(0, 5));
        x.read(0);
        x.read(0);
        is("the second time from the buffer", 2, x.page(0, 5));
        x.moveBlock(0);
        is("a move is no read of it", 2, x.page(0, 5));
        x.write(0);
        is("nor a write", 2, x.page(0, 5));
        is("not another page", 0, x.page(1, 5));
        x.undo();
        x.undo();
        x.undo();
        is("undone", 1, x.page(0, 5));
    }

    // ---- Promise 18

    private static void block() {
        numbersOfBlock();
        readsOfItsPlaces();
        greatestWeakening();
        marksOfABlock();
    }

    private static void numbersOfBlock() {
        sentence("Returns the number; UNKNOWN; BAD_VALUE.");
        WeakenedPages x = new WeakenedPages();
        for (int what : new int[] {Edges.LOW, -1, 10, 11, Edges.HIGH}) {
            is("what " + what, BAD_VALUE, x.block(0, what));
            is("what " + what, BAD_VALUE, x.block(5, what));
        }
        int[] due = {2, 0, 100, 0, 0, 0, 0, 1, 0, 0};
        for (int what = 0; what <= 9; what++) {
            is("block 5, what " + what, due[what], x.block(5, what));
            is("block 6", UNKNOWN, x.block(6, what));
            is("block -1", UNKNOWN, x.block(-1, what));
        }
        Edges.rounds(x, 8);
        is("eight pages", 8, x.block(0, 3));
        is("no stale place", 0, x.block(0, 4));
        for (int page = 0; page < 8; page++) {
            x.forget(page);
        }
        is("no page", 0, x.block(0, 3));
        is("eight stale places", 8, x.block(0, 4));
    }

    private static void readsOfItsPlaces() {
        sentence("8 for reads of its places so far (also by moves; an erasure leaves the number),");
        WeakenedPages x = new WeakenedPages();
        Edges.writes(x, 0, 2);
        x.read(0);
        x.read(0);
        is("not from the buffer", 1, x.block(0, 8));
        x.moveBlock(0);
        is("three moves, and it was erased", 4, x.block(0, 8));
        is("not of the new block", 0, x.block(1, 8));
        WeakenedPages y = new WeakenedPages();
        Edges.stuck(y);
        y.read(1);
        y.moveBlock(0);
        y.pass(1);
        is("nothing that was refused", 100, y.block(0, 8));
    }

    private static void greatestWeakening() {
        sentence("5 for the greatest weakening of places that hold pages (0 without one),");
        WeakenedPages x = new WeakenedPages();
        is("free", 0, x.block(0, 5));
        Edges.writes(x, 0, 2);
        is("never read", 0, x.block(0, 5));
        x.read(0);
        is("page 1", 4, x.block(0, 5));
        x.forget(1);
        is("page 2", 2, x.block(0, 5));
        x.forget(2);
        is("page 0", 1, x.block(0, 5));
        x.forget(0);
        is("stale places alone", 0, x.block(0, 5));
    }

    private static void marksOfABlock() {
        sentence("9 for whether it is marked by a call (1, otherwise 0)");
        WeakenedPages x = new WeakenedPages();
        x.set(2, 0);
        Edges.stuck(x);
        is("weak: marked", 1, x.block(0, 6));
        is("weak: not by a call", 0, x.block(0, 9));
        x.mark(0, true);
        is("by a call", 1, x.block(0, 9));
        x.write(1);
        x.forget(0);
        x.forget(2);
        is("not weak: marked still", 1, x.block(0, 6));
        x.mark(0, false);
        is("not weak", 0, x.block(0, 6));
        is("taken back", 0, x.block(0, 9));
    }

    // ---- Promise 19

    private static void place() {
        sentence("Returns the number; UNKNOWN (block or place); BAD_VALUE.");
        WeakenedPages x = new WeakenedPages();
        for (int what : new int[] {Edges.LOW, -1, 3, Edges.HIGH}) {
            is("what " + what, BAD_VALUE, x.place(0, 0, what));
            is("what " + what, BAD_VALUE, x.place(5, 7, what));
        }
        is("block 6, place 0", UNKNOWN, x.place(6, 0, 0));
        is("block -1, place 8", UNKNOWN, x.place(-1, 8, 0));
        is("block 1, place -1", UNKNOWN, x.place(1, -1, 0));
        is("block 0, place 8", UNKNOWN, x.place(0, 8, 0));
        sentence("- `what`: 0 for the page that it holds (NONE if none), 1 for its state (0 empty, 1 a page, 2 stale), 2 for "
            + "its weakening");
        int[] due = {NONE, 0, 0};
        for (int what = 0; what <= 2; what++) {
            is("empty", due[what], x.place(0, 0, what));
        }
        Edges.writes(x, 0, 1);
        x.read(1);
        int[] held = {0, 1, 4};
        for (int what = 0; what <= 2; what++) {
            is("page 0", held[what], x.place(0, 0, what));
        }
        x.forget(0);
        int[] stale = {NONE, 2, 4};
        for (int what = 0; what <= 2; what++) {
            is("stale", stale[what], x.place(0, 0, what));
        }
    }

    // ---- Promise 20

    private static void marked() {
        sentence("Returns the block; BAD_VALUE if rank is negative; NONE if there are not so many.");
        WeakenedPages x = new WeakenedPages();
        is("none is marked", NONE, x.marked(0));
        for (int rank : OUTSIDE) {
            is("negative", BAD_VALUE, x.marked(rank));
        }
        Edges.noneFree(x);
        for (int block = 0; block < 6; block++) {
            is("not so many", NONE, x.marked(block));
            x.mark(block, true);
        }
        int[] due = {4, 0, 1, 2, 3, 5, NONE, NONE};
        for (int rank = 0; rank < due.length; rank++) {
            is("rank " + rank, due[rank], x.marked(rank));
        }
        is("far", NONE, x.marked(Edges.HIGH));
        orderOfMoves();
    }

    private static void orderOfMoves() {
        sentence("Tells the marked blocks in the order in which they would be moved.");
        WeakenedPages x = new WeakenedPages();
        x.set(3, 0);
        Edges.rounds(x, 24);
        Edges.perform(x, "r0*3,r8*4,r16");
        x.mark(0, true);
        x.mark(1, true);
        x.mark(2, true);
        is("16 of 400", 1, x.marked(0));
        is("12 of 400", 0, x.marked(1));
        is("4 of 200", 2, x.marked(2));
        Edges.perform(x, "r16");
        is("8 of 200", 1, x.marked(0));
        is("is more than 12 of 400", 2, x.marked(1));
        Edges.perform(x, "r16*2");
        is("16 of 200", 2, x.marked(0));
    }

    // ---- Promise 21

    private static void quietIn() {
        noneIsMarked();
        asTicksTell();
        upTo300();
        neverQuiet();
        beyondTheLastTick();
    }

    private static void noneIsMarked() {
        sentence("Returns the ticks, up to 300; 0 if none is marked; NONE if it does not come to that.");
        WeakenedPages x = new WeakenedPages();
        is("new", 0, x.quietIn());
        x.set(1, 1);
        x.write(0);
        is("none is old yet", 0, x.quietIn());
        x.pass(1);
        is("nor after the tick that moved it", 0, x.quietIn());
        x.mark(x.count(3), true);
        is("one is", 1, x.quietIn());
    }

    private static void asTicksTell() {
        sentence("Tells in how many ticks no block is marked any more, if only ticks pass.");
        for (int budget = 1; budget <= 8; budget++) {
            WeakenedPages x = new WeakenedPages();
            x.set(2, budget);
            Edges.rounds(x, 24);
            x.mark(0, true);
            x.mark(2, true);
            int ticks = (16 + budget - 1) / budget;
            is("16 pages, a budget of " + budget, ticks, x.quietIn());
            x.pass(ticks - 1);
            is("one tick ahead of it", 1, x.count(4));
            is("one tick is left", 1, x.quietIn());
            x.pass(1);
            is("none is marked", 0, x.count(4));
            is("none", 0, x.quietIn());
        }
        EDGES.changesNothing("it only looks", 3, x -> {
            Edges.rounds(x, 3);
            x.mark(0, true);
        }, x -> x.quietIn());
    }

    /**
     * Page 0 is old in each tick and wanders between the blocks 0 and 1, which takes all of the budget ahead of the
     * stale block 2, which is marked. In the 300th tick it goes above, as 0 has been erased more often than 4 by then.
     */
    private static void upTo300() {
        sentence("Returns the ticks, up to 300; 0 if none is marked; NONE if it does not come to that.");
        WeakenedPages x = new WeakenedPages();
        for (int write = 0; write < 25; write++) {
            x.write(0);
        }
        x.set(1, 1);
        Edges.pass(x, 450);
        is("the blocks 3 to 5 have 150 erasures each", 450, x.block(3, 1) + x.block(4, 1) + x.block(5, 1));
        x.mark(0, true);
        x.mark(1, true);
        x.pass(1);
        is("page 0 is in block 0", 0, x.page(0, 0));
        x.mark(2, true);
        is("301 ticks", NONE, x.quietIn());
        x.pass(1);
        is("300 ticks", 300, x.quietIn());
        x.pass(1);
        is("299 ticks", 299, x.quietIn());
        Edges.pass(x, 298);
        is("1 tick", 1, x.quietIn());
        is("marked still", 1, x.count(4));
        x.pass(1);
        is("none", 0, x.quietIn());
    }

    private static void neverQuiet() {
        sentence("Returns the ticks, up to 300; 0 if none is marked; NONE if it does not come to that.");
        WeakenedPages x = new WeakenedPages();
        x.write(0);
        x.mark(0, true);
        x.set(2, 0);
        is("no budget", NONE, x.quietIn());
        x.set(2, 1);
        is("a budget", 1, x.quietIn());
        WeakenedPages y = new WeakenedPages();
        Edges.stuck(y);
        is("a block that cannot be moved", NONE, y.quietIn());
        WeakenedPages z = new WeakenedPages();
        z.set(1, 1);
        Edges.writes(z, 0, 1);
        z.pass(1);
        is("one of two is always old", NONE, z.quietIn());
        z.set(2, 2);
        is("unless both can be moved", 1, z.quietIn());
    }

    /** Only pass() is said to be refused there, so its answer does not depend on how late it is. */
    private static void beyondTheLastTick() {
        sentence("Tells in how many ticks no block is marked any more, if only ticks pass.");
        WeakenedPages x = new WeakenedPages();
        Edges.toLateTick(x, 99998);
        Edges.writes(x, 0, 3);
        x.mark(0, true);
        is("four ticks, of which one can pass", 4, x.quietIn());
        is("pass", 1, x.pass(1));
        is("three ticks, of which none can pass", 3, x.quietIn());
        is("pass", NOT_POSSIBLE, x.pass(1));
    }

    // ---- Promise 22

    private static void erasure() {
        sentence("Returns the number; BAD_VALUE (back is negative, or what); NONE if there is none.");
        WeakenedPages x = new WeakenedPages();
        for (int what = 0; what <= 2; what++) {
            is("none", NONE, x.erasure(0, what));
            is("far", NONE, x.erasure(Edges.HIGH, what));
            for (int back : OUTSIDE) {
                is("negative", BAD_VALUE, x.erasure(back, what));
            }
        }
        for (int what : new int[] {Edges.LOW, -1, 3, Edges.HIGH}) {
            is("what " + what, BAD_VALUE, x.erasure(0, what));
            is("what " + what, BAD_VALUE, x.erasure(8, what));
        }
        latestEight();
        weakeningOfAnyPlace();
    }

    private static void latestEight() {
        sentence("Looks back at the latest 8 erasures.");
        WeakenedPages x = new WeakenedPages();
        x.set(1, 1);
        x.write(0);
        for (int tick = 1; tick <= 10; tick++) {
            x.pass(1);
            for (int back = 0; back <= 10; back++) {
                boolean is = back < 8 && back < tick;
                is("tick, back " + back, is ? tick - back : NONE, x.erasure(back, 1));
                is("block, back " + back, is ? (tick - back - 1) % 6 : NONE, x.erasure(back, 0));
                is("weakening, back " + back, is ? 1 : NONE, x.erasure(back, 2));
            }
        }
        x.undo();
        is("undone: the ninth", 9, x.erasure(0, 1));
        is("and the second is back", 2, x.erasure(7, 1));
    }

    private static void weakeningOfAnyPlace() {
        sentence("2 for the greatest weakening that any of its places had");
        WeakenedPages x = new WeakenedPages();
        x.write(0);
        x.forget(0);
        x.moveBlock(0);
        is("never read", 0, x.erasure(0, 2));
        Edges.writes(x, 0, 1);
        x.read(0);
        x.forget(0);
        x.forget(1);
        x.moveBlock(x.count(3));
        is("a stale place", 4, x.erasure(0, 2));
        Edges.writes(x, 0, 1);
        x.moveBlock(x.count(3));
        is("4 by the first move, 1 by its own", 5, x.erasure(0, 2));
        is("the one before", 4, x.erasure(1, 2));
        is("the first", 0, x.erasure(2, 2));
        x.undo();
        int[] blocks = {1, 0};
        int[] weakenings = {4, 0};
        for (int back = 0; back < 2; back++) {
            is("undone: block", blocks[back], x.erasure(back, 0));
            is("undone: weakening", weakenings[back], x.erasure(back, 2));
        }
        is("undone: no third", NONE, x.erasure(2, 2));
    }

    // ---- Promise 23

    private static void count() {
        sentence("Returns the number; BAD_VALUE.");
        WeakenedPages x = new WeakenedPages();
        for (int what : new int[] {Edges.LOW, -1, 13, 14, Edges.HIGH}) {
            is("what " + what, BAD_VALUE, x.count(what));
        }
        countsOfTheStore();
        countsOfReadsAndMoves();
        greatestHundredths();
        countsOfHistoryAndText();
    }

    private static void countsOfTheStore() {
        sentence("1 for pages that have a place, 2 for free blocks, 3 for the open block (NONE without one), "
            + "4 for marked blocks,");
        WeakenedPages x = new WeakenedPages();
        is("no page", 0, x.count(1));
        is("all blocks are free", 6, x.count(2));
        is("none is open", NONE, x.count(3));
        is("none is marked", 0, x.count(4));
        Edges.rounds(x, 24);
        is("all pages", 24, x.count(1));
        is("three blocks are free", 3, x.count(2));
        is("a full one is open", 2, x.count(3));
        x.forget(0);
        is("one less", 23, x.count(1));
        WeakenedPages y = new WeakenedPages();
        Edges.noneFree(y);
        is("none is free", 0, y.count(2));
        is("the last one is open", 5, y.count(3));
        for (int block = 0; block < 6; block++) {
            y.mark(block, true);
        }
        is("all are marked", 6, y.count(4));
    }

    private static void countsOfReadsAndMoves() {
        sentence("5 for reads of pages so far, 6 for those of them from the buffer, 7 for pages that were moved so far, "
            + "8 for erasures so far, 9 for pages in the buffer,");
        WeakenedPages x = new WeakenedPages();
        Edges.writes(x, 0, 1);
        Edges.perform(x, "r0*3,r1*2");
        is("reads", 5, x.count(5));
        is("from the buffer", 3, x.count(6));
        is("in the buffer", 2, x.count(9));
        x.moveBlock(0);
        is("moves are no reads of pages", 5, x.count(5));
        is("moved by a call", 2, x.count(7));
        x.mark(1, true);
        x.pass(2);
        is("moved in ticks", 4, x.count(7));
        is("erasures", 2, x.count(8));
        WeakenedPages y = new WeakenedPages();
        y.set(3, 0);
        Edges.writes(y, 0, 1);
        Edges.perform(y, "r0,r1*99");
        y.read(1);
        is("moved by a read", 2, y.count(7));
        is("reads", 101, y.count(5));
        is("none from the buffer", 0, y.count(6));
        is("none in the buffer", 0, y.count(9));
    }

    private static void greatestHundredths() {
        sentence("10 for the greatest weakening of a place that holds a page, in hundredths of what its block bears "
            + "(rounded down),");
        WeakenedPages x = new WeakenedPages();
        x.set(2, 0);
        is("no page", 0, x.count(10));
        Edges.stuck(x);
        is("all that it bears", 100, x.count(10));
        x.forget(0);
        x.forget(2);
        is("without the stale places", 25, x.count(10));
        x.forget(1);
        is("stale places alone", 0, x.count(10));
        WeakenedPages y = new WeakenedPages();
        y.set(3, 0);
        Edges.rounds(y, 17);
        y.forget(1);
        y.read(0);
        is("2 of 400", 0, y.count(10));
        y.read(0);
        is("4 of 400", 1, y.count(10));
        Edges.perform(y, "r16*3");
        is("3 of 200", 1, y.count(10));
        y.read(16);
        is("4 of 200", 2, y.count(10));
        y.read(8);
        is("less in another block", 2, y.count(10));
    }

    private static void countsOfHistoryAndText() {
        sentence("11 for the states in the history, 12 for the length of the text");
        WeakenedPages x = new WeakenedPages();
        is("none", 0, x.count(11));
        is("empty", 0, x.count(12));
        for (int turn = 1; turn <= 61; turn++) {
            x.pass(1);
            x.type('r');
            is("states", Math.min(turn, 4), x.count(11));
            is("characters", Math.min(turn, 60), x.count(12));
        }
    }

    // ---- Promise 24

    private static void setting() {
        sentence("Returns the setting; UNKNOWN.");
        WeakenedPages x = new WeakenedPages();
        int[] first = {75, 200, 1, 2, 1};
        for (int which = 0; which < 5; which++) {
            is("first", first[which], x.setting(which));
        }
        for (int which : new int[] {Edges.LOW, -1, 5, 6, Edges.HIGH}) {
            is("which " + which, UNKNOWN, x.setting(which));
        }
        x.set(4, 0);
        is("the last", 0, x.setting(4));
        x.undo();
        is("undone", 1, x.setting(4));
    }

    // ---- what an act leaves as it was

    private static void nothingElseChanges() {
        settingsChangeNothingElse();
        kindsChangeNothingElse();
        marksChangeNothingElse();
        readsOfTheBufferChangeNothingElse();
        ticksChangeNothingElse();
        otherCallsChangeNothing();
    }

    private static void settingsChangeNothingElse() {
        sentence("Sets a setting; if the buffer becomes smaller, pages that were read the longest ago leave it.");
        EDGES.changesOnly("threshold", 75, Edges::busy, x -> x.set(0, 20), "setting(0)", 20);
        EDGES.changesOnly("age", 200, Edges::busy, x -> x.set(1, 4), "setting(1)", 4);
        EDGES.changesOnly("budget", 1, Edges::busy, x -> x.set(2, 8), "setting(2)", 8);
        EDGES.changesOnly("greater buffer", 2, Edges::busy, x -> x.set(3, 4), "setting(3)", 4);
        EDGES.changesOnly("smaller buffer", 2, Edges::busy, x -> x.set(3, 1), "setting(3)", 1, "count(9)", 1,
            "page(1, 4)", NONE);
        EDGES.changesOnly("no buffer", 2, Edges::busy, x -> x.set(3, 0), "setting(3)", 0, "count(9)", 0,
            "page(1, 4)", NONE, "page(9, 4)", NONE);
        EDGES.changesOnly("not at once", 1, Edges::busy, x -> x.set(4, 0), "setting(4)", 0);
        EDGES.changesOnly("an age that is reached", 200, Edges::busy, x -> x.set(1, 3), "setting(1)", 3, "count(4)", 2,
            "block(0, 6)", 1, "block(1, 6)", 1, "marked(0)", 0, "marked(1)", 1, "quietIn()", NONE);
    }

    private static void kindsChangeNothingElse() {
        sentence("Makes a block one of another kind; its erasures stay.");
        EDGES.changesOnly("tired", 1, Edges::busy, x -> x.setKind(4, 2), "block(4, 0)", 2, "block(4, 2)", 100);
        EDGES.changesOnly("hard", 2, x -> {
            Edges.busy(x);
            x.set(0, 10);
            x.mark(1, true);
        }, x -> x.setKind(5, 0), "block(5, 0)", 0, "block(5, 2)", 400);
    }

    private static void marksChangeNothingElse() {
        sentence("Marks a block by a call, or takes this mark back.");
        EDGES.changesOnly("marked", 1, Edges::busy, x -> x.mark(1, true), "block(1, 6)", 1, "block(1, 9)", 1,
            "count(4)", 1, "marked(0)", 1, "quietIn()", 4);
        EDGES.changesOnly("taken back", 1, x -> {
            Edges.busy(x);
            x.mark(0, true);
            x.mark(1, true);
        }, x -> x.mark(0, false), "block(0, 6)", 0, "block(0, 9)", 0, "count(4)", 1, "marked(0)", 1, "marked(1)", NONE,
            "quietIn()", 4);
    }

    private static void readsOfTheBufferChangeNothingElse() {
        sentence("A read of a page that is in the buffer reads no place.");
        EDGES.changesOnly("the latest", 0, Edges::busy, x -> x.read(9), "count(5)", 3, "count(6)", 1, "page(9, 5)", 2);
        EDGES.changesOnly("the one before", 0, Edges::busy, x -> x.read(1), "count(5)", 3, "count(6)", 1, "page(1, 5)", 2,
            "page(1, 4)", 0, "page(9, 4)", 1);
    }

    private static void ticksChangeNothingElse() {
        sentence("Lets ticks pass.");
        EDGES.changesOnly("one", 0, Edges::busy, x -> x.pass(1), "count(0)", 4, "page(0, 2)", 1, "page(1, 2)", 4,
            "page(2, 2)", 4, "page(3, 2)", 4, "page(4, 2)", 4, "page(5, 2)", 4, "page(6, 2)", 4, "page(7, 2)", 4,
            "page(8, 2)", 4, "page(9, 2)", 1, "page(10, 2)", 4);
    }

    private static void otherCallsChangeNothing() {
        sentence("A state is everything but the text, the history, the snapshot and the latest refusal.");
        EDGES.changesNothing("keep()", 3, Edges::busy, x -> x.keep());
        EDGES.changesNothing("typed and cleared", 1, Edges::busy, x -> x.type('r') * x.clearText());
        EDGES.changesNothing("a fault", -101, x -> {
            Edges.busy(x);
            Edges.text(x, "r");
        }, x -> x.perform());
    }
}
