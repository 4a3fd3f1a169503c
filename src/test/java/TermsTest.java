/** The section "Terms": each sentence that names a boundary case has a test of its own, under its words. */
public final class TermsTest {
    private static final Edges EDGES = new Edges();
    private static final int UNKNOWN = WeakenedPages.UNKNOWN;
    private static final int BAD_VALUE = WeakenedPages.BAD_VALUE;
    private static final int FULL = WeakenedPages.FULL;
    private static final int NOT_POSSIBLE = WeakenedPages.NOT_POSSIBLE;
    private static final int NONE = WeakenedPages.NONE;

    public static void main(String[] args) {
        callsOfAnObject();
        blocksAndPages();
        reads();
        buffer();
        writes();
        marks();
        moves();
        ticks();
        readingAPage();
        texts();
        history();
        errors();
        EDGES.end("TermsTest");
    }

    private static void sentence(String words) {
        EDGES.sentence(words);
    }

    private static void is(String what, long want, long got) {
        EDGES.is(what, want, got);
    }

    private static void callsOfAnObject() {
        sentence("An object is used for at most 512 calls after it has been made;");
        WeakenedPages x = new WeakenedPages();
        x.write(0);
        for (int call = 2; call <= 511; call++) {
            x.read(0);
        }
        is("the 512th call", 510, x.page(0, 5));
    }

    // ---- BLOCKS AND PAGES

    private static void blocksAndPages() {
        numbersOfBlocksAndPlaces();
        eightPlacesFillABlock();
        numbersOfPages();
        statesOfAPlace();
        onePlaceForAPage();
        atFirstEmpty();
        freeBlocks();
        oneOpenBlock();
        kindsAtFirst();
        erasuresAreCounted();
        bearsAtLeast();
        weakeningAndTick();
    }

    private static void numbersOfBlocksAndPlaces() {
        sentence("There are 6 blocks, numbered from 0, each with 8 places, numbered from 0.");
        WeakenedPages x = new WeakenedPages();
        is("the first", 0, x.place(0, 0, 1));
        is("the last", 0, x.place(5, 7, 1));
        int[] wrong = {Edges.LOW, -1, 6, 7, 8, Edges.HIGH};
        for (int block : wrong) {
            is("block(" + block + ")", UNKNOWN, x.block(block, 0));
            is("place(" + block + ", 0)", UNKNOWN, x.place(block, 0, 0));
            is("setKind(" + block + ")", UNKNOWN, x.setKind(block, 1));
            is("mark(" + block + ")", UNKNOWN, x.mark(block, true));
            is("moveBlock(" + block + ")", UNKNOWN, x.moveBlock(block));
        }
        int[] wrongPlaces = {Edges.LOW, -8, -1, 8, 9, Edges.HIGH};
        for (int place : wrongPlaces) {
            is("place(0, " + place + ")", UNKNOWN, x.place(0, place, 0));
            is("place(5, " + place + ")", UNKNOWN, x.place(5, place, 0));
        }
    }

    private static void eightPlacesFillABlock() {
        sentence("There are 6 blocks, numbered from 0, each with 8 places, numbered from 0.");
        WeakenedPages x = new WeakenedPages();
        for (int page = 0; page < 8; page++) {
            is("place of page " + page, page, x.write(page));
        }
        is("the ninth is in the next block", 8, x.write(8));
        is("at its place 0", 8, x.place(1, 0, 0));
    }

    private static void numbersOfPages() {
        sentence("There are 24 pages, numbered from 0.");
        WeakenedPages x = new WeakenedPages();
        is("write(0)", 0, x.write(0));
        is("write(23)", 1, x.write(23));
        is("read(0)", 1, x.read(0));
        is("read(23)", 1, x.read(23));
        int[] wrong = {Edges.LOW, -1, 24, 25, Edges.HIGH};
        for (int page : wrong) {
            is("write(" + page + ")", UNKNOWN, x.write(page));
            is("read(" + page + ")", UNKNOWN, x.read(page));
            is("forget(" + page + ")", UNKNOWN, x.forget(page));
            is("page(" + page + ")", UNKNOWN, x.page(page, 5));
        }
        is("forget(23)", 1, x.forget(23));
        is("forget(0)", 0, x.forget(0));
    }

    private static void statesOfAPlace() {
        sentence("A place is empty, holds a page (its valid copy), or is stale.");
        WeakenedPages x = new WeakenedPages();
        x.write(5);
        x.write(5);
        is("stale", 2, x.place(0, 0, 1));
        is("stale, no page", NONE, x.place(0, 0, 0));
        is("a page", 1, x.place(0, 1, 1));
        is("the page", 5, x.place(0, 1, 0));
        is("empty", 0, x.place(0, 2, 1));
        is("empty, no page", NONE, x.place(0, 2, 0));
    }

    private static void onePlaceForAPage() {
        sentence("Each page that was written lies at one place.");
        WeakenedPages x = new WeakenedPages();
        Edges.rounds(x, 12);
        Edges.writes(x, 0, 3);
        is("before the move", 12, placesWithPages(x));
        x.moveBlock(0);
        is("after the move", 12, placesWithPages(x));
        for (int page = 0; page < 12; page++) {
            int place = x.page(page, 0);
            is("what lies there", page, x.place(place / 8, place % 8, 0));
        }
    }

    private static int placesWithPages(WeakenedPages x) {
        int places = 0;
        for (int place = 0; place < 48; place++) {
            if (x.place(place / 8, place % 8, 1) == 1) {
                places++;
            }
        }
        return places;
    }

    private static void atFirstEmpty() {
        sentence("At first all places are empty.");
        WeakenedPages x = new WeakenedPages();
        for (int place = 0; place < 48; place++) {
            is("place " + place, 0, x.place(place / 8, place % 8, 1));
        }
    }

    private static void freeBlocks() {
        sentence("A block is free if all its places are empty and it is not the open one;");
        WeakenedPages x = new WeakenedPages();
        is("all are at first", 6, x.count(2));
        x.write(0);
        is("with a page at its place 0", 0, x.block(0, 7));
        is("the others", 5, x.count(2));
        x.forget(0);
        is("with a stale place", 0, x.block(0, 7));
        Edges.rounds(x, 8);
        is("not the open one", 1, x.count(3));
        for (int page = 0; page < 7; page++) {
            x.forget(page);
        }
        is("with stale places alone", 0, x.block(0, 7));
        is("four are left", 4, x.count(2));
        x.moveBlock(0);
        is("erased", 1, x.block(0, 7));
    }

    private static void oneOpenBlock() {
        sentence("there is at most one open block.");
        WeakenedPages x = new WeakenedPages();
        is("none at first", NONE, x.count(3));
        Edges.rounds(x, 8);
        is("a full one stays open", 0, x.count(3));
        x.write(8);
        is("then the next", 1, x.count(3));
        x.moveBlock(1);
        is("in place of the one that was moved", 2, x.count(3));
        x.forget(8);
        x.moveBlock(2);
        is("none after its erasure", NONE, x.count(3));
    }

    private static void kindsAtFirst() {
        sentence("At first the blocks 0 and 1 are hard, 2 to 4 soft, and 5 is tired.");
        WeakenedPages x = new WeakenedPages();
        int[] kinds = {0, 0, 1, 1, 1, 2};
        for (int block = 0; block < 6; block++) {
            is("block " + block, kinds[block], x.block(block, 0));
        }
    }

    private static void erasuresAreCounted() {
        sentence("A block counts its erasures (0 at first).");
        WeakenedPages x = new WeakenedPages();
        for (int block = 0; block < 6; block++) {
            is("block " + block, 0, x.block(block, 1));
        }
        x.write(0);
        x.moveBlock(0);
        is("one", 1, x.block(0, 1));
        is("not that of the new block", 0, x.block(1, 1));
    }

    private static void bearsAtLeast() {
        sentence("A block bears this number: hard 400 less 4 for each erasure, soft 200 less 5 for each erasure, "
            + "tired 100 less 10 for each erasure, but at least 20.");
        bears(0, new int[] {0, 1, 94, 95, 96, 97}, new int[] {400, 396, 24, 20, 20, 20});
        bears(1, new int[] {0, 1, 35, 36, 37, 41}, new int[] {200, 195, 25, 20, 20, 20});
        bears(2, new int[] {0, 1, 7, 8, 9, 10, 11}, new int[] {100, 90, 30, 20, 20, 20, 20});
    }

    private static void bears(int kind, int[] erasures, int[] due) {
        for (int index = 0; index < due.length; index++) {
            WeakenedPages x = Edges.worn(kind, erasures[index]);
            for (int block = 0; block < 6; block++) {
                is("erasures", erasures[index], x.block(block, 1));
                is("kind " + kind + " after " + erasures[index], due[index], x.block(block, 2));
            }
        }
    }

    private static void weakeningAndTick() {
        sentence("Each place has a weakening (0 when its block is erased) and the tick in which it was written.");
        WeakenedPages x = new WeakenedPages();
        Edges.writes(x, 0, 1);
        x.read(0);
        x.forget(1);
        is("stale", 4, x.place(0, 1, 2));
        x.pass(3);
        is("written in tick 0", 3, x.page(0, 2));
        x.moveBlock(0);
        is("erased", 0, x.place(0, 0, 2));
        is("erased, too", 0, x.place(0, 1, 2));
        is("its new place was written now", 0, x.page(0, 2));
        x.pass(2);
        is("two ticks ago", 2, x.page(0, 2));
    }

    // ---- READS

    private static void reads() {
        distances();
        onlyItsBlock();
        onlyPlacesWithPages();
        twiceInATiredBlock();
        ownPlace();
        equalIsAllowed();
        equalInATiredBlock();
        onlyPagesBearReads();
        readsAfterErasures();
    }

    private static void distances() {
        sentence("by 4 at a distance of 1 (of the numbers of places), by 2 at a distance of 2, otherwise by 1.");
        int[][] due = {{1, 4, 2, 1, 1, 1, 1, 1}, {4, 1, 4, 2, 1, 1, 1, 1}, {1, 2, 4, 1, 4, 2, 1, 1},
            {1, 1, 1, 1, 2, 4, 1, 4}, {1, 1, 1, 1, 1, 2, 4, 1}};
        int[] read = {0, 1, 3, 6, 7};
        for (int index = 0; index < read.length; index++) {
            WeakenedPages x = new WeakenedPages();
            Edges.writes(x, 0, 7);
            x.read(read[index]);
            for (int place = 0; place < 8; place++) {
                is("read " + read[index] + ", place " + place, due[index][place], x.place(0, place, 2));
            }
        }
    }

    private static void onlyItsBlock() {
        sentence("When a place of a block is read, each other place of the block that holds a page becomes weaker:");
        WeakenedPages x = new WeakenedPages();
        Edges.writes(x, 0, 23);
        x.read(8);
        x.read(15);
        is("place 7 of the block below", 0, x.page(7, 1));
        is("place 0 of the block above", 0, x.page(16, 1));
        is("its last place", 2, x.page(15, 1));
        is("its first place", 2, x.page(8, 1));
    }

    private static void onlyPlacesWithPages() {
        sentence("When a place of a block is read, each other place of the block that holds a page becomes weaker:");
        WeakenedPages x = new WeakenedPages();
        Edges.writes(x, 0, 2);
        x.forget(1);
        x.read(0);
        is("a stale place doesn't", 0, x.place(0, 1, 2));
        is("a page behind it does", 2, x.place(0, 2, 2));
        is("an empty place doesn't", 0, x.place(0, 3, 2));
        is("nor the last one", 0, x.place(0, 7, 2));
        x.write(3);
        is("so what is put there has 0", 0, x.page(3, 1));
    }

    private static void twiceInATiredBlock() {
        sentence("In a tired block this is twice as much.");
        int[] added = {4, 2, 1};
        for (int kind = 0; kind <= 2; kind++) {
            WeakenedPages x = new WeakenedPages();
            x.setKind(0, kind);
            Edges.writes(x, 0, 7);
            x.read(0);
            for (int place = 1; place < 8; place++) {
                int once = added[Math.min(place, 3) - 1];
                is("kind " + kind + ", distance " + place, kind == 2 ? 2 * once : once, x.place(0, place, 2));
            }
        }
    }

    private static void ownPlace() {
        sentence("The place that is read becomes weaker by 1 (by 1 in a tired block, too).");
        for (int kind = 0; kind <= 2; kind++) {
            WeakenedPages x = new WeakenedPages();
            x.setKind(0, kind);
            Edges.writes(x, 0, 1);
            x.read(1);
            is("kind " + kind, 1, x.page(1, 1));
        }
    }

    private static void equalIsAllowed() {
        sentence("A place must not be read if any place of its block that holds a page would get a weakening that is "
            + "more than what the block bears.");
        WeakenedPages x = new WeakenedPages();
        x.set(3, 0);
        x.set(4, 0);
        Edges.writes(x, 0, 1);
        is("100 times 4", 2, Edges.perform(x, "r0*99,r0"));
        is("is what it bears", 400, x.page(1, 1));
        is("not once more", NOT_POSSIBLE, x.read(0));
        is("nor by 1, at its own place", NOT_POSSIBLE, x.read(1));
        is("page 0 bears more", 100, x.page(0, 1));
        aloneUpToTheNumber(0, 400);
        aloneUpToTheNumber(1, 200);
        aloneUpToTheNumber(2, 100);
    }

    private static void aloneUpToTheNumber(int kind, int number) {
        WeakenedPages x = new WeakenedPages();
        x.setKind(0, kind);
        x.set(3, 0);
        x.set(4, 0);
        x.write(0);
        for (int reads = 1; reads < number; reads++) {
            x.read(0);
        }
        is("its own place, the last time", 1, x.read(0));
        is("its own place, once more", NOT_POSSIBLE, x.read(0));
        is("its own place has", number, x.page(0, 1));
    }

    private static void equalInATiredBlock() {
        sentence("A place must not be read if any place of its block that holds a page would get a weakening that is "
            + "more than what the block bears.");
        WeakenedPages x = new WeakenedPages();
        x.setKind(0, 2);
        x.set(3, 0);
        x.set(4, 0);
        Edges.writes(x, 0, 1);
        is("4 times 1 and 12 times 8", 2, Edges.perform(x, "r1*4,r0*12"));
        is("is what it bears", 100, x.page(1, 1));
        is("not once more", NOT_POSSIBLE, x.read(0));
        WeakenedPages y = new WeakenedPages();
        y.setKind(0, 2);
        y.set(3, 0);
        y.set(4, 0);
        Edges.writes(y, 0, 1);
        is("5 times 1 and 11 times 8", 2, Edges.perform(y, "r1*5,r0*11"));
        is("93, and 8 more are too many", NOT_POSSIBLE, y.read(0));
        is("but 1 more is not", 1, y.read(1));
    }

    private static void onlyPagesBearReads() {
        sentence("A place must not be read if any place of its block that holds a page would get a weakening that is "
            + "more than what the block bears.");
        WeakenedPages x = new WeakenedPages();
        x.set(4, 0);
        Edges.stuck(x);
        is("the places beside it hold pages", NOT_POSSIBLE, x.read(1));
        x.forget(0);
        is("one of them still does", NOT_POSSIBLE, x.read(1));
        x.forget(2);
        is("both are stale", 1, x.read(1));
        is("and stay as they are", 400, x.place(0, 2, 2));
    }

    private static void readsAfterErasures() {
        sentence("A place must not be read if any place of its block that holds a page would get a weakening that is "
            + "more than what the block bears.");
        WeakenedPages x = Edges.worn(2, 8);
        x.set(4, 0);
        is("20 are allowed", 1, Edges.perform(x, "r0*20"));
        is("no 21st", NOT_POSSIBLE, x.read(0));
    }

    // ---- THE BUFFER

    private static void buffer() {
        sizesOfTheBuffer();
        bufferReadsNoPlace();
        bufferNeedsNoPlaceThatBears();
        moveBringsNothingIn();
        longestAgoLeaves();
        writtenLeaves();
    }

    private static void sizesOfTheBuffer() {
        sentence("The buffer holds at most as many pages as its size tells (0 to 4, at first 2).");
        for (int size = 0; size <= 4; size++) {
            WeakenedPages x = new WeakenedPages();
            x.set(3, size);
            Edges.writes(x, 0, 5);
            for (int page = 0; page <= 5; page++) {
                is("size " + size + ", from its place", 1, x.read(page));
                is("size " + size + ", page " + page, Math.min(size, page + 1), x.count(9));
            }
            is("the latest", size == 0 ? NONE : 0, x.page(5, 4));
            for (int rank = 0; rank < 6; rank++) {
                is("size " + size + ", rank " + rank, rank < size ? rank : NONE, x.page(5 - rank, 4));
            }
        }
        WeakenedPages x = new WeakenedPages();
        Edges.writes(x, 0, 2);
        Edges.perform(x, "r0,r1,r2");
        is("at first", 2, x.count(9));
    }

    private static void bufferReadsNoPlace() {
        sentence("A read of a page that is in the buffer reads no place.");
        WeakenedPages x = new WeakenedPages();
        Edges.writes(x, 0, 1);
        is("from its place", 1, x.read(0));
        is("from the buffer", 0, x.read(0));
        is("its place", 1, x.page(0, 1));
        is("the one beside it", 4, x.page(1, 1));
        is("one place was read", 1, x.block(0, 8));
    }

    private static void bufferNeedsNoPlaceThatBears() {
        sentence("A read of a page that is in the buffer reads no place.");
        WeakenedPages x = new WeakenedPages();
        x.set(3, 1);
        x.set(4, 0);
        Edges.writes(x, 0, 1);
        Edges.text(x, "r0,r1,r0,r1,r0,r1,r0,r1,r0,r1,r0,r1,r0,r1,r0,r1,r0,r1,r0,r1");
        for (int call = 0; call < 8; call++) {
            x.perform();
        }
        is("page 0 bears no more", 400, x.page(0, 1));
        is("page 1 neither", 400, x.page(1, 1));
        is("not in the buffer", NOT_POSSIBLE, x.read(0));
        is("in the buffer", 0, x.read(1));
    }

    private static void moveBringsNothingIn() {
        sentence("A page that is read (by read(), not by a move) from its place comes into the buffer;");
        WeakenedPages x = new WeakenedPages();
        Edges.writes(x, 0, 2);
        x.moveBlock(0);
        is("not by a move of the block", 0, x.count(9));
        x.mark(1, true);
        x.pass(3);
        is("nor in a tick", 0, x.count(9));
        is("three were moved twice", 6, x.count(7));
        x.read(2);
        is("by read()", 0, x.page(2, 4));
        is("alone", 1, x.count(9));
    }

    private static void longestAgoLeaves() {
        sentence("if this is full, the page that was read (from the buffer or its place) the longest ago leaves it.");
        WeakenedPages x = new WeakenedPages();
        Edges.writes(x, 0, 2);
        x.read(0);
        x.read(1);
        is("full, but nobody leaves", 1, x.page(0, 4));
        x.read(0);
        x.read(2);
        is("from its place the longest ago", NONE, x.page(1, 4));
        is("from the buffer since", 1, x.page(0, 4));
        is("the latest", 0, x.page(2, 4));
        x.read(1);
        is("now page 0 leaves", NONE, x.page(0, 4));
        is("page 2 stays", 1, x.page(2, 4));
    }

    private static void writtenLeaves() {
        sentence("A page that is written leaves the buffer.");
        WeakenedPages x = new WeakenedPages();
        Edges.writes(x, 0, 1);
        x.read(0);
        x.read(1);
        x.write(1);
        is("it left", NONE, x.page(1, 4));
        is("the other moves up", 0, x.page(0, 4));
        is("one is left", 1, x.count(9));
        is("so its place is read", 1, x.read(1));
        x.write(0);
        is("the last in it", NONE, x.page(0, 4));
        is("page 1 stays", 0, x.page(1, 4));
    }

    // ---- WRITES

    private static void writes() {
        noOpenBlock();
        openBlockIsFull();
        fewestErasures();
        noRoom();
        lowestEmptyPlace();
        aFreeBlockIsLeft();
        otherThanTheOpenOne();
    }

    private static void noOpenBlock() {
        sentence("if there is no open block, or it has no empty place, the free block with the fewest erasures, "
            + "of several the lowest, becomes the open one");
        WeakenedPages x = new WeakenedPages();
        x.write(0);
        is("the lowest at first", 0, x.count(3));
        x.forget(0);
        x.moveBlock(0);
        is("none is open", NONE, x.count(3));
        is("block 0 was erased once, block 1 not", 8, x.write(0));
        is("so it is open", 1, x.count(3));
    }

    private static void openBlockIsFull() {
        sentence("if there is no open block, or it has no empty place, the free block with the fewest erasures, "
            + "of several the lowest, becomes the open one");
        WeakenedPages x = new WeakenedPages();
        Edges.rounds(x, 7);
        is("its last empty place", 7, x.write(7));
        is("none is empty", 8, x.write(8));
        is("the next is open", 1, x.count(3));
        x.forget(0);
        is("a stale place is not empty", 9, x.write(0));
    }

    private static void fewestErasures() {
        sentence("if there is no open block, or it has no empty place, the free block with the fewest erasures, "
            + "of several the lowest, becomes the open one");
        WeakenedPages x = new WeakenedPages();
        x.write(0);
        x.moveBlock(0);
        is("block 0 was erased", 1, x.block(0, 1));
        int[] due = {16, 24, 32, 40};
        for (int round = 0; round < due.length; round++) {
            Edges.writes(x, 1, 8);
            is("the next block", due[round], x.page(8, 0));
        }
    }

    private static void noRoom() {
        sentence("(without a free block there is no room)");
        WeakenedPages x = new WeakenedPages();
        Edges.noRoom(x);
        is("none is free", 0, x.count(2));
        is("no place is empty in the open one", 8, x.block(x.count(3), 3));
        is("a write", FULL, x.write(16));
        is("a move of a block with one page", NOT_POSSIBLE, x.moveBlock(3));
        x.mark(3, true);
        is("in a tick", 0, x.pass(1));
        is("the page stays", 31, x.page(7, 0));
        is("a block without pages needs no room", 0, x.moveBlock(0));
        is("and makes room", 1, x.moveBlock(3));
    }

    private static void lowestEmptyPlace() {
        sentence("The page is put at the lowest empty place of the open block, with the weakening 0; its former place, "
            + "if it has one, becomes stale.");
        WeakenedPages x = new WeakenedPages();
        x.set(3, 0);
        is("the lowest", 0, x.write(0));
        is("nothing is stale", 0, x.block(0, 4));
        x.read(0);
        is("not the stale one", 1, x.write(0));
        is("stale", 2, x.place(0, 0, 1));
        is("with its weakening", 1, x.place(0, 0, 2));
        is("0", 0, x.page(0, 1));
        Edges.writes(x, 1, 6);
        is("in another block", 8, x.write(0));
        is("stale, too", 2, x.place(0, 1, 1));
    }

    private static void aFreeBlockIsLeft() {
        sentence("A write of a page does this, but it needs that a free block is left then, other than the open one.");
        WeakenedPages x = new WeakenedPages();
        Edges.rounds(x, 32);
        is("two are free", 2, x.count(2));
        is("one of them is left", 32, x.write(8));
        Edges.rounds(x, 7);
        is("one is free, and the open one is full", 1, x.count(2));
        is("none would be left", FULL, x.write(8));
        is("so it is not open", 4, x.count(3));
        is("and the page stays", 32, x.page(8, 0));
        x.moveBlock(0);
        is("two are free again", 2, x.count(2));
        is("block 5 has the fewest erasures", 40, x.write(8));
    }

    private static void otherThanTheOpenOne() {
        sentence("A write of a page does this, but it needs that a free block is left then, other than the open one.");
        WeakenedPages x = new WeakenedPages();
        Edges.rounds(x, 39);
        is("one is free, and the open one has an empty place", 1, x.count(2));
        is("the last empty place", 39, x.write(15));
        WeakenedPages y = new WeakenedPages();
        Edges.noneFree(y);
        is("seven places of the open one are empty", 1, y.block(5, 3));
        is("but none is free", FULL, y.write(0));
        y.moveBlock(0);
        is("now one is", 41, y.write(0));
    }

    // ---- MARKS AND MOVES: what is marked

    private static void marks() {
        rangesOfSettings();
        nothingIsRounded();
        atLeastTheThreshold();
        onlyPlacesWithPagesMark();
        asOldAsTheAge();
        anyPageIsOld();
        withoutPagesByACallOnly();
        theOpenBlock();
    }

    private static void rangesOfSettings() {
        sentence("There are these settings (range; first value): 0 the threshold in percent (10 to 100; 75), "
            + "1 the age (1 to 999 ticks; 200), 2 the budget (0 to 8 pages in a tick; 1), 3 the size of the buffer, "
            + "4 whether a block is moved at once (0 or 1; 1).");
        int[] first = {75, 200, 1, 2, 1};
        int[] least = {10, 1, 0, 0, 0};
        int[] most = {100, 999, 8, 4, 1};
        for (int which = 0; which < 5; which++) {
            WeakenedPages x = new WeakenedPages();
            is("first", first[which], x.setting(which));
            is("below", BAD_VALUE, x.set(which, least[which] - 1));
            is("above", BAD_VALUE, x.set(which, most[which] + 1));
            is("far below", BAD_VALUE, x.set(which, Edges.LOW));
            is("far above", BAD_VALUE, x.set(which, Edges.HIGH));
            is("the first value stays", first[which], x.setting(which));
            x.set(which, least[which]);
            is("least", least[which], x.setting(which));
            x.set(which, most[which]);
            is("most", most[which], x.setting(which));
        }
    }

    private static void nothingIsRounded() {
        sentence("or 100 times the greatest weakening of its places that hold pages (nothing is rounded) is at least the "
            + "threshold times what it bears,");
        WeakenedPages x = Edges.worn(1, 1);
        int block = x.count(3);
        is("it bears", 195, x.block(block, 2));
        Edges.perform(x, "r0*99,r0*47");
        is("146 of 146.25", 0, x.block(block, 6));
        is("74.87 hundredths", 74, x.count(10));
        x.read(0);
        is("147", 1, x.block(block, 6));
    }

    private static void atLeastTheThreshold() {
        sentence("or 100 times the greatest weakening of its places that hold pages (nothing is rounded) is at least the "
            + "threshold times what it bears,");
        WeakenedPages x = new WeakenedPages();
        x.set(3, 0);
        x.write(0);
        Edges.perform(x, "r0*99,r0*99,r0*99,r0*2");
        is("299 of 300", 0, x.block(0, 6));
        x.read(0);
        is("300", 1, x.block(0, 6));
        x.set(0, 76);
        is("a greater threshold", 0, x.block(0, 6));
        x.set(0, 100);
        Edges.perform(x, "r0*99");
        is("399 of 400", 0, x.block(0, 6));
        x.read(0);
        is("all that it bears", 1, x.block(0, 6));
        WeakenedPages y = new WeakenedPages();
        y.set(0, 10);
        y.set(3, 0);
        y.write(0);
        Edges.perform(y, "r0*39");
        is("39 of 40", 0, y.block(0, 6));
        y.read(0);
        is("40", 1, y.block(0, 6));
    }

    private static void onlyPlacesWithPagesMark() {
        sentence("or 100 times the greatest weakening of its places that hold pages (nothing is rounded) is at least the "
            + "threshold times what it bears,");
        WeakenedPages x = new WeakenedPages();
        Edges.stuck(x);
        is("marked", 1, x.block(0, 6));
        x.forget(0);
        is("page 2 has 400 still", 1, x.block(0, 6));
        x.forget(2);
        is("page 1 has 100", 0, x.block(0, 6));
        is("the stale place has 400", 400, x.place(0, 0, 2));
    }

    private static void asOldAsTheAge() {
        sentence("or any page in it was written as many ticks ago as the age tells, or more.");
        WeakenedPages x = new WeakenedPages();
        x.set(2, 0);
        x.write(0);
        x.pass(99);
        x.pass(99);
        x.pass(1);
        is("199 ticks", 0, x.block(0, 6));
        x.pass(1);
        is("200 ticks", 1, x.block(0, 6));
        x.pass(1);
        is("more", 1, x.block(0, 6));
        x.set(1, 202);
        is("202 would be needed", 0, x.block(0, 6));
        x.set(1, 1);
        x.write(0);
        is("0 ticks", 0, x.block(0, 6));
        x.pass(1);
        is("1 tick", 1, x.block(0, 6));
        theGreatestAge();
    }

    private static void theGreatestAge() {
        sentence("1 the age (1 to 999 ticks; 200)");
        WeakenedPages x = new WeakenedPages();
        x.set(2, 0);
        x.set(1, 999);
        x.write(0);
        for (int tick = 98; tick < 999; tick += 100) {
            Edges.pass(x, tick - x.count(0));
            is("tick " + tick, 0, x.count(4));
        }
        x.pass(1);
        is("tick 999", 1, x.count(4));
        for (int tick = 1000; tick < 4000; tick += 250) {
            Edges.pass(x, tick - x.count(0));
            is("tick " + tick, 1, x.count(4));
        }
    }

    private static void anyPageIsOld() {
        sentence("or any page in it was written as many ticks ago as the age tells, or more.");
        WeakenedPages x = new WeakenedPages();
        x.set(1, 5);
        x.set(2, 0);
        x.write(0);
        x.pass(5);
        Edges.writes(x, 1, 7);
        is("the first of eight", 1, x.block(0, 6));
        x.write(0);
        is("its stale place is not a page", 0, x.block(0, 6));
        WeakenedPages y = new WeakenedPages();
        y.set(1, 5);
        y.set(2, 0);
        Edges.writes(y, 0, 7);
        y.pass(5);
        for (int page = 0; page < 7; page++) {
            y.forget(page);
        }
        is("the last of eight", 1, y.block(0, 6));
    }

    private static void withoutPagesByACallOnly() {
        sentence("(A block without pages is marked by a call only.)");
        WeakenedPages x = new WeakenedPages();
        x.set(2, 0);
        Edges.stuck(x);
        x.pass(99);
        x.pass(99);
        x.pass(99);
        for (int page = 0; page < 3; page++) {
            x.forget(page);
        }
        is("weak and old, but stale", 0, x.block(0, 6));
        is("by a call", 1, x.mark(0, true));
        is("marked", 1, x.block(0, 6));
        is("no free block is", 0, x.block(1, 6));
    }

    private static void theOpenBlock() {
        sentence("The open block can be marked, too.");
        WeakenedPages x = new WeakenedPages();
        x.write(0);
        is("by a call", 1, x.mark(0, true));
        is("open", 0, x.count(3));
        is("moved", 1, x.pass(1));
        WeakenedPages y = new WeakenedPages();
        y.set(2, 0);
        Edges.stuck(y);
        is("open", 0, y.count(3));
        is("by weakening", 1, y.block(0, 6));
        WeakenedPages z = new WeakenedPages();
        z.set(1, 1);
        z.set(2, 0);
        z.write(0);
        z.pass(1);
        is("open", 0, z.count(3));
        is("by age", 1, z.block(0, 6));
        markedAndStillOpen();
    }

    private static void markedAndStillOpen() {
        sentence("The open block can be marked, too.");
        WeakenedPages x = new WeakenedPages();
        x.set(2, 0);
        Edges.writes(x, 0, 8);
        is("marked", 1, x.mark(1, true));
        is("still open", 1, x.count(3));
        is("a write goes there", 9, x.write(9));
        is("moves go there", 8, x.moveBlock(0));
        is("the first one", 10, x.page(0, 0));
        is("the last one with room", 15, x.page(5, 0));
        is("then to another block", 16, x.page(6, 0));
        is("marked by the call", 1, x.block(1, 9));
    }

    // ---- MARKS AND MOVES: what a move is

    private static void moves() {
        moveReadsThePlace();
        moveGoesToAnotherBlock();
        openNoMore();
        openNoMoreEvenIfNotMoved();
        openNoMoreWithoutRoom();
        fromTheLowestPlaceOn();
        erasedWithoutPages();
    }

    private static void moveReadsThePlace() {
        sentence("To move a page is to read its place (which weakens its neighbours, and must be allowed as told), "
            + "and to give it a place, in another block:");
        WeakenedPages x = new WeakenedPages();
        Edges.writes(x, 0, 3);
        x.mark(0, true);
        x.pass(1);
        int[] due = {1, 4, 2, 1};
        for (int place = 0; place < 4; place++) {
            is("place " + place, due[place], x.place(0, place, 2));
        }
        is("a place was read", 1, x.block(0, 8));
        is("the former place is stale", 2, x.place(0, 0, 1));
        is("the new one has the weakening 0", 0, x.page(0, 1));
        WeakenedPages y = new WeakenedPages();
        Edges.stuck(y);
        is("not allowed", NOT_POSSIBLE, y.moveBlock(0));
    }

    private static void moveGoesToAnotherBlock() {
        sentence("To move a page is to read its place (which weakens its neighbours, and must be allowed as told), "
            + "and to give it a place, in another block:");
        WeakenedPages x = new WeakenedPages();
        x.write(0);
        x.moveBlock(0);
        is("not into the seven empty places", 8, x.page(0, 0));
        WeakenedPages y = new WeakenedPages();
        Edges.writes(y, 0, 8);
        y.moveBlock(0);
        is("into the open one", 9, y.page(0, 0));
        is("the last one opens a free one", 16, y.page(7, 0));
    }

    private static void openNoMore() {
        sentence("if the open block is the one that is moved, it is not the open one any more, first of all "
            + "(also if the page cannot be moved then).");
        WeakenedPages x = new WeakenedPages();
        Edges.writes(x, 0, 2);
        x.mark(0, true);
        x.pass(1);
        is("after one page", 1, x.count(3));
        x.mark(0, false);
        is("the next page goes there, too", 9, x.write(5));
    }

    private static void openNoMoreEvenIfNotMoved() {
        sentence("if the open block is the one that is moved, it is not the open one any more, first of all "
            + "(also if the page cannot be moved then).");
        WeakenedPages x = new WeakenedPages();
        Edges.stuck(x);
        is("open", 0, x.count(3));
        is("nothing is moved", 0, x.pass(1));
        is("none is open", NONE, x.count(3));
        is("five are free", 5, x.count(2));
        is("its empty places are left", 8, x.write(3));
    }

    private static void openNoMoreWithoutRoom() {
        sentence("if the open block is the one that is moved, it is not the open one any more, first of all "
            + "(also if the page cannot be moved then).");
        WeakenedPages x = new WeakenedPages();
        Edges.noneFree(x);
        x.mark(5, true);
        is("open", 5, x.count(3));
        is("no other has room", 0, x.pass(1));
        is("none is open", NONE, x.count(3));
        is("the page stays", 40, x.page(8, 0));
        is("so nothing has room", NOT_POSSIBLE, x.moveBlock(4));
    }

    private static void fromTheLowestPlaceOn() {
        sentence("To move a block is to move its pages, from the lowest place on, and to erase the block when no place in "
            + "it holds a page:");
        WeakenedPages x = new WeakenedPages();
        int[] pages = {9, 4, 7, 1, 8};
        for (int page : pages) {
            x.write(page);
        }
        x.forget(4);
        x.moveBlock(0);
        int[] due = {9, 7, 1, 8};
        for (int place = 0; place < 4; place++) {
            is("place " + place, due[place], x.place(1, place, 0));
        }
        WeakenedPages y = new WeakenedPages();
        Edges.writes(y, 0, 1);
        y.mark(0, true);
        y.pass(1);
        is("page 1 is there: not erased", 0, y.block(0, 1));
        y.pass(1);
        is("no page is there: erased", 1, y.block(0, 1));
    }

    private static void erasedWithoutPages() {
        sentence("all its places become empty, its erasures grow by 1, its mark by a call is gone, and it is not the open "
            + "one any more (if it was).");
        WeakenedPages x = new WeakenedPages();
        Edges.rounds(x, 8);
        x.mark(0, true);
        x.moveBlock(0);
        for (int place = 0; place < 8; place++) {
            is("empty", 0, x.place(0, place, 1));
        }
        is("erasures", 1, x.block(0, 1));
        is("mark", 0, x.block(0, 9));
        is("another one is open", 1, x.count(3));
        x.write(8);
        for (int page = 0; page < 9; page++) {
            x.forget(page);
        }
        is("a page less in a new block", 2, x.count(3));
        x.mark(2, true);
        is("without pages", 0, x.moveBlock(2));
        is("mark", 0, x.block(2, 9));
        is("it was the open one", NONE, x.count(3));
        is("a new one", 24, x.write(9));
        is("block 1 is erased", 0, x.moveBlock(1));
        is("it was not the open one", 3, x.count(3));
    }

    // ---- MARKS AND MOVES: what a tick does

    private static void ticks() {
        tickGrowsFirst();
        asLongAsBudgetIsLeft();
        erasureNeedsBudgetLeft();
        noBudget();
        marksAnewInATick();
        orderAnewInATick();
        roundedDownInTheOrder();
        ofSeveralTheLowest();
        erasedWithTheLastOfTheBudget();
        erasureTakesNothing();
        notReadEndsTheTick();
        noRoomEndsTheTick();
        nextTickBeginsAnew();
    }

    private static void tickGrowsFirst() {
        sentence("In a tick, the tick (0 at first) becomes greater by 1;");
        WeakenedPages x = new WeakenedPages();
        is("at first", 0, x.count(0));
        x.set(1, 1);
        x.write(0);
        is("a page becomes old in the same tick", 1, x.pass(1));
        is("its new place is of tick 1", 0, x.page(0, 2));
        is("the erasure, too", 1, x.erasure(0, 1));
        is("the tick", 1, x.count(0));
    }

    private static void asLongAsBudgetIsLeft() {
        sentence("then, as long as any of the budget is left (marks are looked at anew each time):");
        for (int budget = 0; budget <= 8; budget++) {
            WeakenedPages x = new WeakenedPages();
            x.set(2, budget);
            Edges.writes(x, 0, 15);
            x.mark(0, true);
            x.mark(1, true);
            is("a budget of " + budget, budget, x.pass(1));
            is("moved", budget, x.count(7));
        }
        WeakenedPages x = new WeakenedPages();
        x.set(2, 8);
        Edges.writes(x, 0, 4);
        x.mark(0, true);
        is("fewer pages than the budget", 5, x.pass(1));
    }

    private static void erasureNeedsBudgetLeft() {
        sentence("then, as long as any of the budget is left (marks are looked at anew each time):");
        WeakenedPages x = new WeakenedPages();
        Edges.rounds(x, 17);
        for (int page = 8; page < 16; page++) {
            x.forget(page);
        }
        x.mark(0, true);
        x.mark(1, true);
        is("a page of block 0 in each tick", 8, x.pass(8));
        is("it is erased with its last one", 0, x.erasure(0, 0));
        is("block 1 without pages is not: no budget was left", 1, x.count(8));
        is("no page", 0, x.pass(1));
        is("in the next tick", 1, x.erasure(0, 0));
    }

    private static void noBudget() {
        sentence("then, as long as any of the budget is left (marks are looked at anew each time):");
        WeakenedPages x = new WeakenedPages();
        x.set(2, 0);
        x.write(0);
        x.forget(0);
        x.mark(0, true);
        is("nothing is moved", 0, x.pass(99));
        is("and nothing erased", 0, x.count(8));
        is("it stays open", 0, x.count(3));
    }

    private static void marksAnewInATick() {
        sentence("then, as long as any of the budget is left (marks are looked at anew each time):");
        WeakenedPages x = new WeakenedPages();
        x.set(2, 8);
        x.set(3, 0);
        x.write(0);
        Edges.perform(x, "r0*99,r0*99,r0*99,r0*3");
        Edges.writes(x, 1, 2);
        is("marked", 1, x.block(0, 6));
        is("without the weak page it is not", 1, x.pass(1));
        is("two pages stay", 2, x.block(0, 3));
        is("not marked", 0, x.block(0, 6));
        WeakenedPages y = new WeakenedPages();
        y.set(1, 3);
        y.set(2, 8);
        y.write(0);
        y.pass(1);
        y.write(1);
        is("the old one only", 1, y.pass(2));
        is("page 1 is younger", 1, y.page(1, 0));
    }

    private static void orderAnewInATick() {
        sentence("then, as long as any of the budget is left (marks are looked at anew each time):");
        WeakenedPages x = new WeakenedPages();
        x.set(2, 2);
        x.set(3, 0);
        x.write(0);
        Edges.perform(x, "r0*50");
        Edges.writes(x, 1, 15);
        Edges.perform(x, "r8*9");
        x.mark(0, true);
        x.mark(1, true);
        is("page 0 has 50, page 9 has 36", 0, x.marked(0));
        is("two", 2, x.pass(1));
        is("the weak page", 16, x.page(0, 0));
        is("then block 1 is the weaker one", 17, x.page(8, 0));
        is("page 1 stays", 1, x.page(1, 0));
    }

    private static void roundedDownInTheOrder() {
        sentence("the marked block with the greatest weakening, in hundredths of what it bears (rounded down), "
            + "of several the lowest, is moved on by its lowest page,");
        WeakenedPages x = new WeakenedPages();
        x.set(3, 0);
        Edges.rounds(x, 16);
        x.read(0);
        x.read(9);
        x.read(8);
        is("4 of 400", 4, x.block(0, 5));
        is("6 of 400", 6, x.block(1, 5));
        x.mark(0, true);
        x.mark(1, true);
        is("both are one hundredth", 0, x.marked(0));
        x.pass(1);
        is("so block 0 is moved on", 16, x.page(0, 0));
        WeakenedPages y = new WeakenedPages();
        y.set(3, 0);
        Edges.rounds(y, 16);
        y.read(0);
        y.read(8);
        y.read(8);
        y.mark(0, true);
        y.mark(1, true);
        is("two hundredths are more", 1, y.marked(0));
        y.pass(1);
        is("so block 1 is moved on", 16, y.page(8, 0));
    }

    private static void ofSeveralTheLowest() {
        sentence("the marked block with the greatest weakening, in hundredths of what it bears (rounded down), "
            + "of several the lowest, is moved on by its lowest page,");
        WeakenedPages x = new WeakenedPages();
        Edges.rounds(x, 24);
        x.mark(2, true);
        x.mark(1, true);
        x.pass(1);
        is("block 1", 24, x.page(8, 0));
        is("not block 2", 16, x.page(16, 0));
        x.forget(9);
        x.pass(1);
        is("its lowest page", 25, x.page(10, 0));
        theLowestIsThatOfTheLowestPlace();
    }

    private static void theLowestIsThatOfTheLowestPlace() {
        sentence("To move a block is to move its pages, from the lowest place on,");
        WeakenedPages x = new WeakenedPages();
        x.write(9);
        x.write(2);
        x.write(5);
        x.mark(0, true);
        x.pass(1);
        is("page 9 at place 0", 8, x.page(9, 0));
        is("not yet page 2", 1, x.page(2, 0));
        x.pass(1);
        is("page 2 at place 1", 9, x.page(2, 0));
        is("then page 5", 1, x.pass(1));
        is("at place 2", 10, x.page(5, 0));
    }

    private static void erasedWithTheLastOfTheBudget() {
        sentence("and is erased as soon as it holds no page (also if the budget is used up by that);");
        WeakenedPages x = new WeakenedPages();
        x.write(0);
        x.mark(0, true);
        is("a budget of 1", 1, x.pass(1));
        is("erased", 1, x.count(8));
        is("in this tick", 1, x.erasure(0, 1));
        WeakenedPages y = new WeakenedPages();
        y.set(2, 8);
        Edges.writes(y, 0, 7);
        y.mark(0, true);
        is("a budget of 8", 8, y.pass(1));
        is("erased", 1, y.block(0, 7));
        WeakenedPages z = new WeakenedPages();
        z.set(2, 7);
        Edges.writes(z, 0, 7);
        z.mark(0, true);
        is("a budget of 7", 7, z.pass(1));
        is("a page is left", 0, z.count(8));
    }

    private static void erasureTakesNothing() {
        sentence("a marked block without pages is erased, which takes nothing of the budget.");
        WeakenedPages x = new WeakenedPages();
        Edges.rounds(x, 25);
        for (int page = 1; page < 16; page++) {
            x.forget(page);
        }
        x.mark(0, true);
        x.mark(1, true);
        x.mark(2, true);
        is("two erasures and a page", 1, x.pass(1));
        is("blocks", 2, x.count(8));
        is("the first", 0, x.erasure(1, 0));
        is("the second", 1, x.erasure(0, 0));
        is("the page of block 2", 25, x.page(16, 0));
    }

    private static void notReadEndsTheTick() {
        sentence("If the page cannot be moved (there is no room, or its place must not be read), moving ends for this tick.");
        WeakenedPages x = new WeakenedPages();
        x.set(2, 8);
        Edges.stuck(x);
        Edges.writes(x, 3, 9);
        x.mark(1, true);
        is("the weakest cannot be moved", 0, x.pass(1));
        is("so block 1 is not, with a budget of 8", 8, x.page(8, 0));
        is("nothing is erased", 0, x.count(8));
        x.forget(0);
        x.forget(2);
        is("block 0 is not marked any more", 2, x.pass(1));
    }

    private static void noRoomEndsTheTick() {
        sentence("If the page cannot be moved (there is no room, or its place must not be read), moving ends for this tick.");
        WeakenedPages x = new WeakenedPages();
        Edges.noRoom(x);
        x.set(2, 8);
        x.mark(3, true);
        x.mark(0, true);
        is("block 3 is the weaker one", 3, x.marked(0));
        is("it cannot be moved", 0, x.pass(1));
        is("so block 0 is not erased", 0, x.count(8));
        x.mark(3, false);
        is("nothing is moved", 0, x.pass(1));
        is("but erased", 1, x.count(8));
    }

    private static void nextTickBeginsAnew() {
        sentence("If the page cannot be moved (there is no room, or its place must not be read), moving ends for this tick.");
        WeakenedPages x = new WeakenedPages();
        x.set(1, 3);
        Edges.stuck(x);
        x.write(3);
        x.set(3, 0);
        is("the ticks pass all the same", 0, x.pass(50));
        is("the tick", 50, x.count(0));
        x.forget(0);
        x.forget(2);
        is("then it goes on", 2, x.pass(2));
    }

    // ---- READING A PAGE

    private static void readingAPage() {
        movedOnlyIfNotAllowed();
        notAtOnce();
        budgetsDoNotMatter();
        roomForAllItsPages();
        whenItsTurnComes();
        allowedByAnEarlierMove();
        notAllowedAtTheNewPlace();
        nothingWasMoved();
    }

    private static void movedOnlyIfNotAllowed() {
        sentence("When a page that is not in the buffer is read, and its place must not be read: if blocks are moved at "
            + "once, its block is moved as a whole (budgets do not matter), if there is room for all its pages and each of "
            + "these moves is allowed when its turn comes; then the page is read at its new place, if this is allowed.");
        WeakenedPages x = new WeakenedPages();
        x.set(3, 0);
        x.write(0);
        is("400 reads", 5, Edges.perform(x, "r0*99,r0*99,r0*99,r0*99,r0*3"));
        is("the last that is allowed", 1, x.read(0));
        is("there is still its place", 0, x.page(0, 0));
        is("it cannot even be moved", NOT_POSSIBLE, x.read(0));
        WeakenedPages y = new WeakenedPages();
        y.set(3, 0);
        Edges.writes(y, 0, 1);
        Edges.perform(y, "r1*99,r0");
        is("page 0 has 397", 397, y.page(0, 1));
        is("a read that is allowed moves nothing", 1, y.read(0));
        is("a read that is not does", 2, y.read(1));
        is("in another block", 9, y.page(1, 0));
        is("and is read there", 1, y.page(1, 1));
        is("erased", 1, y.block(0, 1));
    }

    private static void notAtOnce() {
        sentence("Otherwise the read is refused, and nothing was moved.");
        EDGES.changesNothing("not moved at once", NOT_POSSIBLE, x -> {
            weakBesideStrong(x);
            x.set(4, 0);
        }, x -> x.read(1));
        EDGES.isAnAct("moved at once", 2, TermsTest::weakBesideStrong, x -> x.read(1));
    }

    /** Page 0 has 397 of 400, page 1 has 103: it may not be read at its place, but both may be moved. */
    private static void weakBesideStrong(WeakenedPages x) {
        x.set(3, 0);
        Edges.writes(x, 0, 1);
        Edges.perform(x, "r0,r1*99");
    }

    private static void budgetsDoNotMatter() {
        sentence("its block is moved as a whole (budgets do not matter)");
        WeakenedPages x = new WeakenedPages();
        x.set(2, 0);
        weakBesideStrong(x);
        Edges.writes(x, 2, 7);
        is("a budget of 0", 2, x.read(1));
        is("eight pages", 8, x.count(7));
        WeakenedPages y = new WeakenedPages();
        y.set(2, 0);
        weakBesideStrong(y);
        is("by a call, too", 2, y.moveBlock(0));
    }

    private static void roomForAllItsPages() {
        sentence("if there is room for all its pages and each of these moves is allowed when its turn comes;");
        WeakenedPages x = new WeakenedPages();
        weakPageInFullStore(x);
        is("seven places for eight pages", NOT_POSSIBLE, x.read(17));
        is("nothing was moved", 16, x.page(16, 0));
        WeakenedPages y = new WeakenedPages();
        weakPageInFullStore(y);
        y.forget(23);
        is("seven places for seven pages", 2, y.read(17));
        is("the last one", 47, y.page(22, 0));
    }

    /** Page 16 of block 2 has 197 of 200, so 17 must not be read; seven places of block 5 are empty, no block is free. */
    private static void weakPageInFullStore(WeakenedPages x) {
        x.set(0, 100);
        x.set(3, 0);
        Edges.rounds(x, 18);
        Edges.perform(x, "r17*49,r16");
        for (int round = 18; round < 40; round++) {
            x.write(round % 24);
        }
        x.mark(4, true);
        x.pass(1);
        x.mark(4, false);
    }

    private static void whenItsTurnComes() {
        sentence("if there is room for all its pages and each of these moves is allowed when its turn comes;");
        WeakenedPages x = new WeakenedPages();
        twoWeakPages(x, "r1*98,r2");
        is("393, 2 and 4 by the moves ahead and 1 by its own", 2, x.read(1));
        is("are 400", 400, x.erasure(0, 2));
        EDGES.changesNothing("394 are 1 too many at the last move", NOT_POSSIBLE,
            y -> twoWeakPages(y, "r1*98,r0"), y -> y.read(1));
        EDGES.changesNothing("395 are 1 too many at the second move", NOT_POSSIBLE,
            y -> twoWeakPages(y, "r1*98,r0,r2"), y -> y.read(1));
        EDGES.changesNothing("the first move is not allowed", NOT_POSSIBLE, Edges::stuck, y -> y.read(1));
    }

    /** The pages 0 and 2 are weak, page 1 between them is not. */
    private static void twoWeakPages(WeakenedPages x, String reads) {
        x.set(3, 0);
        Edges.writes(x, 0, 1);
        x.read(1);
        x.write(2);
        Edges.perform(x, reads);
    }

    private static void allowedByAnEarlierMove() {
        sentence("if there is room for all its pages and each of these moves is allowed when its turn comes;");
        WeakenedPages x = new WeakenedPages();
        weakBesideStrong(x);
        is("page 1 must not be read", 0, x.page(1, 3));
        is("but when page 0 is away", 2, x.moveBlock(0));
    }

    private static void notAllowedAtTheNewPlace() {
        sentence("then the page is read at its new place, if this is allowed.");
        WeakenedPages x = new WeakenedPages();
        weakPageInTheOpenBlock(x, "r3*12");
        is("96 and 4 of 100", 2, x.read(1));
        is("there", 11, x.page(1, 0));
        is("weak now", 100, x.page(4, 1));
        EDGES.changesNothing("97 and 4 of 100", NOT_POSSIBLE, y -> weakPageInTheOpenBlock(y, "r3*12,r4"), y -> y.read(1));
    }

    /** Page 1 must not be read, and would come two places behind page 4, in the tired block 1. */
    private static void weakPageInTheOpenBlock(WeakenedPages x, String reads) {
        x.set(3, 0);
        x.setKind(1, 2);
        Edges.writes(x, 0, 1);
        for (int write = 0; write < 6; write++) {
            x.write(2);
        }
        Edges.writes(x, 3, 4);
        x.forget(2);
        Edges.perform(x, reads);
        Edges.perform(x, "r0,r1*99");
    }

    private static void nothingWasMoved() {
        sentence("Otherwise the read is refused, and nothing was moved.");
        EDGES.changesNothing("no room for all", NOT_POSSIBLE, TermsTest::weakPageInFullStore, x -> x.read(17));
        EDGES.changesNothing("not allowed", NOT_POSSIBLE, Edges::stuck, x -> x.read(0));
        EDGES.changesNothing("no room at all", NOT_POSSIBLE, x -> {
            weakPageInFullStore(x);
            x.mark(3, true);
            x.pass(7);
            x.mark(3, false);
        }, x -> x.read(17));
    }

    // ---- TEXTS

    private static void texts() {
        sixtyCharacters();
        oneOrMoreOrders();
        lettersOfOrders();
        numbersOfOrders();
        howOften();
        zerosInFront();
        digitsOutOfRange();
        firstFault();
    }

    /** What perform() answers to a text, with all pages written: the number of orders, or less 100 less the fault. */
    private static int answerTo(String text) {
        WeakenedPages x = new WeakenedPages();
        Edges.rounds(x, 24);
        return Edges.perform(x, text);
    }

    private static void sound(String text, int orders) {
        is(text + ": orders", orders, answerTo(text));
    }

    private static void fault(String text, int index) {
        is(text + ": fault", -100 - index, answerTo(text));
    }

    private static void sixtyCharacters() {
        sentence("There is a text of at most 60 characters, empty at first.");
        WeakenedPages x = new WeakenedPages();
        is("empty", 0, x.count(12));
        for (int length = 1; length <= 60; length++) {
            is("type", length, x.type('t'));
        }
        is("no more", FULL, x.type('t'));
        is("60 stay", 60, x.count(12));
        String nineteen = "w1,w2,w3,w4,w5,w6,w7,w8,w9,t1,t2,t3,t4,t5,t6,t7,t8,t9,r0,";
        sound(nineteen + "r10", 20);
        fault(nineteen + "r1x", 59);
        fault(nineteen + "r1,", 60);
    }

    private static void oneOrMoreOrders() {
        sentence("A text of orders is one or more orders with \",\" between two.");
        sound("r1", 1);
        sound("r1,w1", 2);
        sound("t1,w1,r1", 3);
        fault("", 0);
        fault(",", 0);
        fault(",r1", 0);
        fault("r1,", 3);
        fault("r1,,r1", 3);
        fault("r1r1", 2);
        fault("r1 r1", 2);
        fault("r1 ", 2);
        fault(" r1", 0);
        fault("r1;r1", 2);
        fault("r1,r", 4);
    }

    private static void lettersOfOrders() {
        sentence("An order is \"r\" (read) or \"w\" (write), a page (one or two digits, 0 to 23), or \"t\" (ticks, "
            + "one or two digits, 1 to 99);");
        for (int sign = 0; sign < 1024; sign++) {
            char character = (char) sign;
            boolean letter = character == 'r' || character == 'w' || character == 't';
            is("sign " + sign, letter ? 1 : -100, answerTo(character + "1"));
        }
        fault((char) ('r' + 256) + "1", 0);
        fault((char) 65535 + "1", 0);
    }

    private static void numbersOfOrders() {
        sentence("An order is \"r\" (read) or \"w\" (write), a page (one or two digits, 0 to 23), or \"t\" (ticks, "
            + "one or two digits, 1 to 99);");
        for (int number = 0; number <= 99; number++) {
            is("r" + number, number <= 23 ? 1 : -102, answerTo("r" + number));
            is("w" + number, number <= 23 ? 1 : -102, answerTo("w" + number));
            is("t" + number, number >= 1 ? 1 : -101, answerTo("t" + number));
        }
        for (int sign = 0; sign < 1024; sign++) {
            boolean digit = sign >= '0' && sign <= '9';
            is("r and sign " + sign, digit ? 1 : -101, answerTo("r" + (char) sign));
            is("t and sign " + sign, digit && sign != '0' ? 1 : -101, answerTo("t" + (char) sign));
        }
        fault("r", 1);
        fault("w", 1);
        fault("t", 1);
        fault("r100", 3);
        fault("r-1", 1);
        fault("w+1", 1);
        fault("t100", 3);
    }

    private static void howOften() {
        sentence("behind a read there may be \"*\" and how often (one or two digits, 1 to 99).");
        for (int times = 1; times <= 99; times++) {
            is("times " + times, 1, answerTo("r1*" + times));
        }
        WeakenedPages x = new WeakenedPages();
        x.write(1);
        is("99 times", 1, Edges.perform(x, "r1*99"));
        is("reads", 99, x.page(1, 5));
        is("once", 2, Edges.perform(x, "r1*1,r1"));
        is("reads", 101, x.page(1, 5));
        sound("r23*10,r0*1", 2);
        fault("r1*0", 3);
        fault("r1*00", 3);
        fault("r1*100", 5);
        fault("r1*", 3);
        fault("r1*,r1", 3);
        fault("r1**2", 3);
        fault("r1*2*2", 4);
        fault("r1*x", 3);
        fault("r*2", 1);
        fault("w1*2", 2);
        fault("w12*2", 3);
        fault("t1*2", 2);
        fault("t12*2", 3);
    }

    private static void zerosInFront() {
        sentence("Numbers have no zero in front, unless it is the single digit 0 of a page;");
        sound("r0", 1);
        sound("w0", 1);
        sound("r0*9", 1);
        sound("r10,w20,t10,r1*10", 4);
        fault("r00", 2);
        fault("r01", 2);
        fault("w09", 2);
        fault("w00", 2);
        fault("t0", 1);
        fault("t01", 1);
        fault("t00", 1);
        fault("r1*01", 3);
        fault("r00*1", 2);
    }

    private static void digitsOutOfRange() {
        sentence("a digit is not allowed by which a number would be out of its range.");
        sound("r23", 1);
        fault("r24", 2);
        fault("w24", 2);
        fault("r30", 2);
        fault("w99", 2);
        fault("r230", 3);
        fault("r3*99,w3,r29", 11);
        sound("t99", 1);
        fault("t990", 3);
        fault("r1*990", 5);
    }

    private static void firstFault() {
        sentence("The fault of the text is the index, from 0, of the first character that is not allowed at its place, or "
            + "the length of the text if it ends too early (the empty text does).");
        fault("", 0);
        fault("x", 0);
        fault("r24,x", 2);
        fault("r1,x,y", 3);
        fault("w1,t", 4);
        fault("w1,t5,r", 7);
        fault("w1,t5,r7*", 9);
        WeakenedPages x = new WeakenedPages();
        is("a text that was never typed", -100, x.perform());
        x.type('r');
        is("one character", -101, x.perform());
        x.type('1');
        is("page 1 was never written", NOT_POSSIBLE, x.perform());
        x.type(',');
        is("the fault is looked for first", -103, x.perform());
        x.clearText();
        is("the empty text", -100, x.perform());
    }

    // ---- HISTORY

    private static void history() {
        atMostFourStates();
        actsAreRecorded();
        otherCallsAreNot();
        oneSnapshot();
        whatIsNotOfAState();
        allOfAState();
    }

    private static void atMostFourStates() {
        sentence("A history of at most 4 states is kept; when one more is recorded, the oldest one is dropped; undo() "
            + "removes and restores the latest one.");
        WeakenedPages x = new WeakenedPages();
        for (int act = 1; act <= 9; act++) {
            x.pass(1);
            is("states", Math.min(act, 4), x.count(11));
        }
        for (int left = 3; left >= 0; left--) {
            is("undo", left, x.undo());
            is("the tick", 5 + left, x.count(0));
            is("states", left, x.count(11));
        }
        is("no more", NONE, x.undo());
        is("the tick", 5, x.count(0));
        x.pass(1);
        is("one state", 1, x.count(11));
        is("undo", 0, x.undo());
        is("no more", NONE, x.undo());
    }

    private static void actsAreRecorded() {
        sentence("Each call of a method that is described as an act, and returns no error and not NONE, records the state "
            + "that was before it.");
        EDGES.isAnAct("set", 75, Edges::busy, x -> x.set(0, 20));
        EDGES.isAnAct("set the buffer", 2, Edges::busy, x -> x.set(3, 0));
        EDGES.isAnAct("setKind", 1, Edges::busy, x -> x.setKind(4, 2));
        EDGES.isAnAct("mark", 1, Edges::busy, x -> x.mark(1, true));
        EDGES.isAnAct("write", 13, Edges::busy, x -> x.write(2));
        EDGES.isAnAct("read", 1, Edges::busy, x -> x.read(2));
        EDGES.isAnAct("read from the buffer", 0, Edges::busy, x -> x.read(1));
        EDGES.isAnAct("read after a move", 2, TermsTest::weakBesideStrong, x -> x.read(1));
        EDGES.isAnAct("forget", 10, Edges::busy, x -> x.forget(1));
        EDGES.isAnAct("moveBlock", 7, Edges::busy, x -> x.moveBlock(0));
        EDGES.isAnAct("pass", 0, Edges::busy, x -> x.pass(1));
        EDGES.isAnAct("perform", 4, x -> {
            Edges.busy(x);
            Edges.text(x, "w2,r2*3,t9,w23");
        }, x -> x.perform());
        EDGES.isAnAct("restore", 0, x -> {
            x.keep();
            Edges.busy(x);
        }, x -> x.restore());
        EDGES.isAnAct("mark taken back", 0, x -> {
            Edges.busy(x);
            x.mark(1, true);
        }, x -> x.mark(1, false));
    }

    private static void otherCallsAreNot() {
        sentence("Each call of a method that is described as an act, and returns no error and not NONE, records the state "
            + "that was before it.");
        WeakenedPages x = new WeakenedPages();
        x.pass(1);
        x.type('r');
        x.clearText();
        x.keep();
        x.perform();
        x.refusal(0);
        x.page(0, 0);
        x.block(0, 0);
        x.place(0, 0, 0);
        x.marked(0);
        x.quietIn();
        x.erasure(0, 0);
        x.setting(0);
        is("one state", 1, x.count(11));
        x.set(0, 75);
        x.setKind(0, 0);
        x.write(24);
        x.read(0);
        x.pass(0);
        is("nor those with an error or NONE", 1, x.count(11));
        x.undo();
        is("nor undo()", 0, x.count(11));
    }

    private static void oneSnapshot() {
        sentence("There is one snapshot, empty at first.");
        WeakenedPages x = new WeakenedPages();
        is("empty", NONE, x.restore());
        x.keep();
        x.pass(5);
        is("in place of the first", 5, x.keep());
        x.pass(2);
        is("the second", 5, x.restore());
        is("it stays", 5, x.restore());
    }

    private static void whatIsNotOfAState() {
        sentence("A state is everything but the text, the history, the snapshot and the latest refusal.");
        WeakenedPages x = new WeakenedPages();
        x.write(0);
        x.keep();
        x.pass(7);
        Edges.text(x, "w1,r5");
        is("refused", NOT_POSSIBLE, x.perform());
        is("restore() leaves the text", 0, x.restore());
        is("five characters", 5, x.count(12));
        is("and the latest refusal", 1, x.refusal(0));
        is("and the history, which grows", 3, x.count(11));
        is("undo() leaves them, too", 2, x.undo());
        is("five characters", 5, x.count(12));
        is("the latest refusal", UNKNOWN, x.refusal(1));
        x.keep();
        x.undo();
        is("undo() leaves the snapshot", 7, x.restore());
        is("undo() of all that is left", 1, x.undo());
        is("undo() of all that is left", 0, x.undo());
        is("tick 0", 0, x.count(0));
        is("five characters", 5, x.count(12));
        is("the latest refusal", UNKNOWN, x.refusal(1));
        is("the snapshot", 7, x.restore());
        is("as often as asked for", 7, x.restore());
    }

    private static void allOfAState() {
        sentence("A state is everything but the text, the history, the snapshot and the latest refusal.");
        WeakenedPages kept = new WeakenedPages();
        WeakenedPages other = new WeakenedPages();
        Edges.busy(kept);
        Edges.busy(other);
        kept.keep();
        kept.set(1, 3);
        kept.setKind(5, 0);
        kept.mark(1, true);
        kept.pass(9);
        kept.moveBlock(0);
        kept.forget(3);
        kept.set(3, 0);
        kept.restore();
        EDGES.same("restored", other, kept, true);
    }

    // ---- ERRORS

    private static void errors() {
        orderOfTheChecks();
        noneOnlyWithoutErrors();
        errorsOfSettings();
        errorsOfPages();
        errorsOfTexts();
        errorsOfQuestions();
    }

    private static void orderOfTheChecks() {
        sentence("Where several errors can apply, the order of the @return line is the order of the checks.");
        WeakenedPages x = new WeakenedPages();
        Edges.rounds(x, 40);
        is("set: which and value", UNKNOWN, x.set(5, 1000));
        is("set: which and value", UNKNOWN, x.set(-1, -1));
        is("setKind: block and kind", UNKNOWN, x.setKind(6, 3));
        is("setKind: kind and not free", BAD_VALUE, x.setKind(0, 3));
        is("setKind: kind and not free", BAD_VALUE, x.setKind(0, -1));
        is("write: page, and no free block would be left", UNKNOWN, x.write(24));
        is("page: page and what", UNKNOWN, x.page(24, 6));
        is("block: block and what", UNKNOWN, x.block(6, 10));
        is("place: block and what", UNKNOWN, x.place(6, 0, 3));
        is("place: place and what", UNKNOWN, x.place(0, 8, 3));
        Edges.text(x, "w0,w24");
        is("perform: a fault, and an order that would be refused", -105, x.perform());
        is("which was not", NONE, x.refusal(0));
        WeakenedPages last = new WeakenedPages();
        Edges.toLateTick(last, 99999);
        is("pass: ticks, and the tick would be more than 99999", BAD_VALUE, last.pass(100));
    }

    private static void noneOnlyWithoutErrors() {
        sentence("NONE is no error; it is returned only if no error applies.");
        WeakenedPages x = new WeakenedPages();
        x.write(0);
        is("setKind: so already, but not free", NOT_POSSIBLE, x.setKind(0, 0));
        is("setKind: so already, and free", NONE, x.setKind(1, 0));
        is("mark: so already, but free", NOT_POSSIBLE, x.mark(1, false));
        is("mark: so already, and not free", NONE, x.mark(0, false));
        for (int what : new int[] {Edges.LOW, -1, 6, Edges.HIGH}) {
            is("page: no place, but a bad value", BAD_VALUE, x.page(1, what));
        }
        is("refusal: none, but a bad value", BAD_VALUE, x.refusal(3));
        is("refusal: none, but a bad value", BAD_VALUE, x.refusal(-1));
        is("refusal: none", NONE, x.refusal(2));
        is("marked: none, but a bad value", BAD_VALUE, x.marked(-1));
        is("marked: none", NONE, x.marked(0));
        is("erasure: none, but a bad value", BAD_VALUE, x.erasure(-1, 0));
        is("erasure: none, but a bad value", BAD_VALUE, x.erasure(0, 3));
        is("erasure: none, but a bad value", BAD_VALUE, x.erasure(8, -1));
        is("erasure: none", NONE, x.erasure(0, 2));
    }

    private static void errorsOfSettings() {
        sentence("A call that returns an error or NONE changes nothing (but for the latest refusal of perform()).");
        EDGES.changesNothing("set", UNKNOWN, Edges::busy, x -> x.set(5, 1));
        EDGES.changesNothing("set", BAD_VALUE, Edges::busy, x -> x.set(3, 5));
        EDGES.changesNothing("set", NONE, Edges::busy, x -> x.set(3, 2));
        EDGES.changesNothing("setKind", UNKNOWN, Edges::busy, x -> x.setKind(6, 0));
        EDGES.changesNothing("setKind", BAD_VALUE, Edges::busy, x -> x.setKind(5, 3));
        EDGES.changesNothing("setKind", NOT_POSSIBLE, Edges::busy, x -> x.setKind(0, 1));
        EDGES.changesNothing("setKind", NONE, Edges::busy, x -> x.setKind(5, 2));
        EDGES.changesNothing("mark", UNKNOWN, Edges::busy, x -> x.mark(-1, true));
        EDGES.changesNothing("mark", NOT_POSSIBLE, Edges::busy, x -> x.mark(5, true));
        EDGES.changesNothing("mark", NONE, Edges::busy, x -> x.mark(0, false));
        EDGES.changesNothing("undo", NONE, x -> x.type('r'), x -> x.undo());
        EDGES.changesNothing("restore", NONE, Edges::busy, x -> x.restore());
    }

    private static void errorsOfPages() {
        sentence("A call that returns an error or NONE changes nothing (but for the latest refusal of perform()).");
        EDGES.changesNothing("write", UNKNOWN, Edges::busy, x -> x.write(24));
        EDGES.changesNothing("write, none would be left", FULL, Edges::oneFree, x -> x.write(0));
        EDGES.changesNothing("write, none is left", FULL, Edges::noneFree, x -> x.write(0));
        EDGES.changesNothing("write, no room", FULL, Edges::noRoom, x -> x.write(0));
        EDGES.changesNothing("write of a page in the buffer", FULL, x -> {
            Edges.rounds(x, 40);
            x.read(0);
        }, x -> x.write(0));
        EDGES.changesNothing("read", UNKNOWN, Edges::busy, x -> x.read(-1));
        EDGES.changesNothing("read, never written", UNKNOWN, Edges::busy, x -> x.read(23));
        EDGES.changesNothing("read, refused", NOT_POSSIBLE, Edges::stuck, x -> x.read(1));
        EDGES.changesNothing("forget", UNKNOWN, Edges::busy, x -> x.forget(24));
        EDGES.changesNothing("forget, never written", UNKNOWN, Edges::busy, x -> x.forget(23));
        EDGES.changesNothing("moveBlock", UNKNOWN, Edges::busy, x -> x.moveBlock(6));
        EDGES.changesNothing("moveBlock, free", NOT_POSSIBLE, Edges::busy, x -> x.moveBlock(5));
        EDGES.changesNothing("moveBlock, not allowed", NOT_POSSIBLE, Edges::stuck, x -> x.moveBlock(0));
        EDGES.changesNothing("moveBlock, no room", NOT_POSSIBLE, Edges::noRoom, x -> x.moveBlock(3));
        EDGES.changesNothing("moveBlock, room for seven of eight", NOT_POSSIBLE, Edges::noneFree, x -> x.moveBlock(3));
        EDGES.changesNothing("pass", BAD_VALUE, Edges::busy, x -> x.pass(0));
        EDGES.changesNothing("pass", BAD_VALUE, Edges::busy, x -> x.pass(100));
    }

    private static void errorsOfTexts() {
        sentence("A call that returns an error or NONE changes nothing (but for the latest refusal of perform()).");
        EDGES.changesNothing("type", FULL, x -> Edges.text(x, "0123456789".repeat(6)), x -> x.type('r'));
        EDGES.changesNothing("perform, a fault", -106, x -> {
            Edges.busy(x);
            Edges.text(x, "w3,t9,");
        }, x -> x.perform());
        EDGES.changesNothing("perform, refused before", NOT_POSSIBLE, x -> {
            Edges.busy(x);
            Edges.text(x, "w3,t9,r9*7,r2*3,w4,r23");
            x.perform();
        }, x -> x.perform());
        WeakenedPages x = new WeakenedPages();
        Edges.text(x, "r1");
        x.perform();
        is("but for the latest refusal", UNKNOWN, x.refusal(1));
    }

    private static void errorsOfQuestions() {
        sentence("A call that returns an error or NONE changes nothing (but for the latest refusal of perform()).");
        EDGES.changesNothing("refusal", BAD_VALUE, Edges::busy, x -> x.refusal(3));
        EDGES.changesNothing("refusal", NONE, Edges::busy, x -> x.refusal(0));
        EDGES.changesNothing("page", UNKNOWN, Edges::busy, x -> x.page(24, 0));
        EDGES.changesNothing("page", BAD_VALUE, Edges::busy, x -> x.page(0, 6));
        EDGES.changesNothing("page", NONE, Edges::busy, x -> x.page(23, 0));
        EDGES.changesNothing("block", UNKNOWN, Edges::busy, x -> x.block(6, 0));
        EDGES.changesNothing("block", BAD_VALUE, Edges::busy, x -> x.block(0, 10));
        EDGES.changesNothing("place", UNKNOWN, Edges::busy, x -> x.place(0, 8, 0));
        EDGES.changesNothing("place", BAD_VALUE, Edges::busy, x -> x.place(0, 0, 3));
        EDGES.changesNothing("marked", BAD_VALUE, Edges::busy, x -> x.marked(-1));
        EDGES.changesNothing("marked", NONE, Edges::busy, x -> x.marked(0));
        EDGES.changesNothing("quietIn", NONE, Edges::stuck, x -> x.quietIn());
        EDGES.changesNothing("erasure", BAD_VALUE, Edges::busy, x -> x.erasure(0, 3));
        EDGES.changesNothing("erasure", NONE, Edges::busy, x -> x.erasure(0, 0));
        EDGES.changesNothing("count", BAD_VALUE, Edges::busy, x -> x.count(13));
        EDGES.changesNothing("setting", UNKNOWN, Edges::busy, x -> x.setting(5));
    }
}
