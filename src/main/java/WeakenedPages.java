/** A store of blocks whose pages are weakened by reads of their neighbours. */
public final class WeakenedPages {
    public static final int UNKNOWN = -1;
    public static final int BAD_VALUE = -2;
    public static final int FULL = -3;
    public static final int NOT_POSSIBLE = -4;
    public static final int NONE = -5;

    private static final int BLOCKS = 6;
    private static final int PLACES_OF_BLOCK = 8;
    private static final int ALL_PLACES = 48;
    private static final int PAGES = 24;
    private static final int ABSENT = -1;

    // Below 0, so that a place holds a page if what it holds is 0 or more.
    private static final int EMPTY = -1;
    private static final int STALE = -2;

    private static final int TIRED = 2;
    private static final int[] FIRST_KINDS = {0, 0, 1, 1, 1, 2};
    private static final int[] BEARS_AT_FIRST = {400, 200, 100};
    private static final int[] LOSS_BY_ERASURE = {4, 5, 10};
    private static final int BEARS_AT_LEAST = 20;

    private static final int SETTINGS = 5;
    private static final int THRESHOLD = 0;
    private static final int AGE = 1;
    private static final int BUDGET = 2;
    private static final int BUFFER_SIZE = 3;
    private static final int AT_ONCE = 4;
    private static final int[] LEAST_SETTINGS = {10, 1, 0, 0, 0};
    private static final int[] GREATEST_SETTINGS = {100, 999, 8, 4, 1};
    private static final int[] FIRST_SETTINGS = {75, 200, 1, 2, 1};
    private static final int LARGEST_BUFFER = 4;

    private static final int FROM_BUFFER = 0;
    private static final int FROM_PLACE = 1;
    private static final int AFTER_MOVING = 2;

    private static final int TICKS_OF_CALL = 99;
    private static final int LAST_TICK = 99999;
    // In a tick at most 8 pages are moved and each block is erased once without pages.
    private static final int STEPS_OF_TICK = 32;
    private static final int QUIET_LIMIT = 300;

    private static final int ERASURES_KEPT = 8;
    private static final int STATES_KEPT = 4;
    private static final int TEXT_LIMIT = 60;
    // An order takes two signs and a comma, so a text has at most 20.
    private static final int ORDERS_LIMIT = 32;
    private static final int TIMES_LIMIT = 99;
    private static final int SOUND = -1;
    private static final int FAULT_BASE = -100;

    private final Store now = new Store();
    private final Store before = new Store();
    private final Store trial = new Store();
    private final Store snapshot = new Store();
    private boolean hasSnapshot = false;
    private final History history = new History();
    private final Orders orders = new Orders();
    private boolean wasRefused = false;
    private int refusedOrder = 0;
    private int refusedError = 0;
    private int refusedTimes = 0;

    public WeakenedPages() {
    }

    // ---- settings

    public int set(int which, int value) {
        before.copyFrom(now);
        return settle(now.changeSetting(which, value));
    }

    public int setKind(int block, int kind) {
        before.copyFrom(now);
        return settle(now.changeKind(block, kind));
    }

    public int mark(int block, boolean is) {
        before.copyFrom(now);
        return settle(now.changeCall(block, is));
    }

    // ---- pages

    public int write(int page) {
        before.copyFrom(now);
        return settle(now.writePage(page));
    }

    public int read(int page) {
        before.copyFrom(now);
        return settle(now.readPage(page));
    }

    public int forget(int page) {
        before.copyFrom(now);
        return settle(now.forgetPage(page));
    }

    public int moveBlock(int block) {
        before.copyFrom(now);
        return settle(now.moveOnDemand(block));
    }

    public int pass(int ticks) {
        before.copyFrom(now);
        return settle(now.passTicks(ticks));
    }

    /** Ends an act that began with a copy in 'before': undoes all of it if it failed, otherwise records it. */
    private int settle(int answer) {
        if (answer < 0) {
            now.copyFrom(before);
        } else {
            history.record(before);
        }
        return answer;
    }

    // ---- texts

    public int type(char character) {
        return orders.append(character);
    }

    public int clearText() {
        return orders.empty();
    }

    public int perform() {
        int fault = orders.parse();
        if (fault != SOUND) {
            return FAULT_BASE - fault;
        }
        before.copyFrom(now);
        for (int order = 0; order < orders.number; order++) {
            int times = orders.timesOf(order);
            for (int done = 0; done < times; done++) {
                int answer = performOnce(order);
                if (answer < 0) {
                    noteRefusal(order, answer, done);
                    return settle(NOT_POSSIBLE);
                }
            }
        }
        return settle(orders.number);
    }

    private int performOnce(int order) {
        char letter = orders.letterOf(order);
        int argument = orders.argumentOf(order);
        if (letter == 'r') {
            return now.readPage(argument);
        }
        if (letter == 'w') {
            return now.writePage(argument);
        }
        return now.passTicks(argument);
    }

    private void noteRefusal(int order, int error, int times) {
        wasRefused = true;
        refusedOrder = order;
        refusedError = error;
        refusedTimes = times;
    }

    public int refusal(int what) {
        if (what < 0 || what > 2) {
            return BAD_VALUE;
        }
        if (!wasRefused) {
            return NONE;
        }
        switch (what) {
            case 0:
                return refusedOrder;
            case 1:
                return refusedError;
            default:
                return refusedTimes;
        }
    }

    // ---- history

    public int undo() {
        if (history.size == 0) {
            return NONE;
        }
        history.takeLatest(now);
        return history.size;
    }

    public int keep() {
        snapshot.copyFrom(now);
        hasSnapshot = true;
        return now.tick;
    }

    public int restore() {
        if (!hasSnapshot) {
            return NONE;
        }
        history.record(now);
        now.copyFrom(snapshot);
        return now.tick;
    }

    // ---- what is told

    public int page(int page, int what) {
        if (!isPage(page)) {
            return UNKNOWN;
        }
        if (what < 0 || what > 5) {
            return BAD_VALUE;
        }
        if (what == 4) {
            int rank = now.buffer.rankOf(page);
            return rank == ABSENT ? NONE : rank;
        }
        if (what == 5) {
            return now.pageReads[page];
        }
        if (!now.hasPlace(page)) {
            return NONE;
        }
        int place = now.placeOf[page];
        switch (what) {
            case 0:
                return place;
            case 1:
                return now.weakenings[place];
            case 2:
                return now.tick - now.written[place];
            default:
                return now.readsLeft(place);
        }
    }

    public int block(int block, int what) {
        if (!isBlock(block)) {
            return UNKNOWN;
        }
        switch (what) {
            case 0:
                return now.kinds[block];
            case 1:
                return now.erasures[block];
            case 2:
                return now.bears(block);
            case 3:
                return now.pagesIn(block);
            case 4:
                return now.used[block] - now.pagesIn(block);
            case 5:
                return now.greatestOfPages(block);
            case 6:
                return now.isMarked(block) ? 1 : 0;
            case 7:
                return now.isFree(block) ? 1 : 0;
            case 8:
                return now.blockReads[block];
            case 9:
                return now.called[block] ? 1 : 0;
            default:
                return BAD_VALUE;
        }
    }

    public int place(int block, int place, int what) {
        if (!isBlock(block) || place < 0 || place >= PLACES_OF_BLOCK) {
            return UNKNOWN;
        }
        int index = block * PLACES_OF_BLOCK + place;
        int held = now.held[index];
        switch (what) {
            case 0:
                return isPage(held) ? held : NONE;
            case 1:
                return isPage(held) ? 1 : held == STALE ? 2 : 0;
            case 2:
                return now.weakenings[index];
            default:
                return BAD_VALUE;
        }
    }

    public int marked(int rank) {
        if (rank < 0) {
            return BAD_VALUE;
        }
        for (int block = 0; block < BLOCKS; block++) {
            if (now.isMarked(block) && now.markedAhead(block) == rank) {
                return block;
            }
        }
        return NONE;
    }

    public int quietIn() {
        trial.copyFrom(now);
        for (int ticks = 0; ticks <= QUIET_LIMIT; ticks++) {
            if (trial.markedBlocks() == 0) {
                return ticks;
            }
            trial.passOne();
        }
        return NONE;
    }

    public int erasure(int back, int what) {
        if (back < 0 || what < 0 || what > 2) {
            return BAD_VALUE;
        }
        if (back >= ERASURES_KEPT || back >= now.log.total) {
            return NONE;
        }
        switch (what) {
            case 0:
                return now.log.blocks[back];
            case 1:
                return now.log.ticks[back];
            default:
                return now.log.weakenings[back];
        }
    }

    public int count(int what) {
        switch (what) {
            case 0:
                return now.tick;
            case 1:
                return now.pagesInAll();
            case 2:
                return now.freeBlocks();
            case 3:
                return now.open == ABSENT ? NONE : now.open;
            case 4:
                return now.markedBlocks();
            case 5:
                return now.reads;
            case 6:
                return now.bufferReads;
            case 7:
                return now.movedPages;
            case 8:
                return now.log.total;
            case 9:
                return now.buffer.size;
            case 10:
                return now.greatestHundredths();
            case 11:
                return history.size;
            case 12:
                return orders.length;
            default:
                return BAD_VALUE;
        }
    }

    public int setting(int which) {
        if (!isSetting(which)) {
            return UNKNOWN;
        }
        return now.settings[which];
    }

    private static boolean isPage(int page) {
        return page >= 0 && page < PAGES;
    }

    private static boolean isBlock(int block) {
        return block >= 0 && block < BLOCKS;
    }

    private static boolean isSetting(int which) {
        return which >= 0 && which < SETTINGS;
    }

    /** The pages that were read the latest, the latest one first. */
    private static final class Buffer {
        final int[] pages = new int[LARGEST_BUFFER];
        int size = 0;

        void copyFrom(Buffer other) {
            System.arraycopy(other.pages, 0, pages, 0, LARGEST_BUFFER);
            size = other.size;
        }

        int rankOf(int page) {
            for (int rank = 0; rank < size && rank < LARGEST_BUFFER; rank++) {
                if (pages[rank] == page) {
                    return rank;
                }
            }
            return ABSENT;
        }

        void putFirst(int page, int limit) {
            drop(page);
            int room = Math.min(limit, LARGEST_BUFFER);
            if (room < 1) {
                return;
            }
            shrinkTo(room - 1);
            for (int rank = size; rank > 0; rank--) {
                pages[rank] = pages[rank - 1];
            }
            pages[0] = page;
            size++;
        }

        void drop(int page) {
            int rank = rankOf(page);
            if (rank == ABSENT) {
                return;
            }
            for (int next = rank + 1; next < size && next < LARGEST_BUFFER; next++) {
                pages[next - 1] = pages[next];
            }
            size--;
        }

        void shrinkTo(int limit) {
            size = Math.min(size, limit);
        }
    }

    /** The latest erasures, the latest one first. */
    private static final class ErasureLog {
        final int[] blocks = new int[ERASURES_KEPT];
        final int[] ticks = new int[ERASURES_KEPT];
        final int[] weakenings = new int[ERASURES_KEPT];
        int total = 0;

        void copyFrom(ErasureLog other) {
            System.arraycopy(other.blocks, 0, blocks, 0, ERASURES_KEPT);
            System.arraycopy(other.ticks, 0, ticks, 0, ERASURES_KEPT);
            System.arraycopy(other.weakenings, 0, weakenings, 0, ERASURES_KEPT);
            total = other.total;
        }

        void note(int block, int tick, int weakening) {
            for (int back = ERASURES_KEPT - 1; back > 0; back--) {
                blocks[back] = blocks[back - 1];
                ticks[back] = ticks[back - 1];
                weakenings[back] = weakenings[back - 1];
            }
            blocks[0] = block;
            ticks[0] = tick;
            weakenings[0] = weakening;
            total++;
        }
    }

    /**
     * A state: all that undo and restore bring back. A method that answers an error
     * may leave a state half changed: who calls it puts the former one back.
     */
    private static final class Store {
        final int[] kinds = new int[BLOCKS];
        final int[] erasures = new int[BLOCKS];
        final boolean[] called = new boolean[BLOCKS];
        final int[] blockReads = new int[BLOCKS];
        // Places are filled from the lowest on and emptied all at once, so this is the lowest empty place, too.
        final int[] used = new int[BLOCKS];
        final int[] held = new int[ALL_PLACES];
        final int[] weakenings = new int[ALL_PLACES];
        final int[] written = new int[ALL_PLACES];
        final int[] placeOf = new int[PAGES];
        final int[] pageReads = new int[PAGES];
        final int[] settings = new int[SETTINGS];
        final Buffer buffer = new Buffer();
        final ErasureLog log = new ErasureLog();
        int open = ABSENT;
        int tick = 0;
        int reads = 0;
        int bufferReads = 0;
        int movedPages = 0;

        Store() {
            System.arraycopy(FIRST_KINDS, 0, kinds, 0, BLOCKS);
            System.arraycopy(FIRST_SETTINGS, 0, settings, 0, SETTINGS);
            for (int place = 0; place < ALL_PLACES; place++) {
                held[place] = EMPTY;
            }
            for (int page = 0; page < PAGES; page++) {
                placeOf[page] = ABSENT;
            }
        }

        void copyFrom(Store other) {
            System.arraycopy(other.kinds, 0, kinds, 0, BLOCKS);
            System.arraycopy(other.erasures, 0, erasures, 0, BLOCKS);
            System.arraycopy(other.blockReads, 0, blockReads, 0, BLOCKS);
            System.arraycopy(other.used, 0, used, 0, BLOCKS);
            System.arraycopy(other.held, 0, held, 0, ALL_PLACES);
            System.arraycopy(other.weakenings, 0, weakenings, 0, ALL_PLACES);
            System.arraycopy(other.written, 0, written, 0, ALL_PLACES);
            System.arraycopy(other.placeOf, 0, placeOf, 0, PAGES);
            System.arraycopy(other.pageReads, 0, pageReads, 0, PAGES);
            System.arraycopy(other.settings, 0, settings, 0, SETTINGS);
            for (int block = 0; block < BLOCKS; block++) {
                called[block] = other.called[block];
            }
            buffer.copyFrom(other.buffer);
            log.copyFrom(other.log);
            open = other.open;
            tick = other.tick;
            reads = other.reads;
            bufferReads = other.bufferReads;
            movedPages = other.movedPages;
        }

        // ---- what a block is

        int bears(int block) {
            int kind = kinds[block];
            if (kind < 0 || kind > TIRED) {
                return BEARS_AT_LEAST;
            }
            int left = BEARS_AT_FIRST[kind] - LOSS_BY_ERASURE[kind] * erasures[block];
            return left < BEARS_AT_LEAST ? BEARS_AT_LEAST : left;
        }

        boolean isFree(int block) {
            return used[block] == 0 && block != open;
        }

        int freeBlocks() {
            int free = 0;
            for (int block = 0; block < BLOCKS; block++) {
                if (isFree(block)) {
                    free++;
                }
            }
            return free;
        }

        boolean hasPlace(int page) {
            return isPage(page) && placeOf[page] >= 0 && placeOf[page] < ALL_PLACES;
        }

        int pagesIn(int block) {
            int pages = 0;
            int first = block * PLACES_OF_BLOCK;
            for (int place = first; place < first + PLACES_OF_BLOCK; place++) {
                if (held[place] >= 0) {
                    pages++;
                }
            }
            return pages;
        }

        int pagesInAll() {
            int pages = 0;
            for (int block = 0; block < BLOCKS; block++) {
                pages += pagesIn(block);
            }
            return pages;
        }

        int greatestOfPages(int block) {
            int greatest = 0;
            int first = block * PLACES_OF_BLOCK;
            for (int place = first; place < first + PLACES_OF_BLOCK; place++) {
                if (held[place] >= 0 && weakenings[place] > greatest) {
                    greatest = weakenings[place];
                }
            }
            return greatest;
        }

        int hundredths(int block) {
            return 100 * greatestOfPages(block) / bears(block);
        }

        int greatestHundredths() {
            int greatest = 0;
            for (int block = 0; block < BLOCKS; block++) {
                greatest = Math.max(greatest, hundredths(block));
            }
            return greatest;
        }

        // ---- which blocks are marked

        boolean isMarked(int block) {
            return called[block] || isOld(block)
                || 100 * greatestOfPages(block) >= settings[THRESHOLD] * bears(block);
        }

        boolean isOld(int block) {
            int first = block * PLACES_OF_BLOCK;
            for (int place = first; place < first + PLACES_OF_BLOCK; place++) {
                if (held[place] >= 0 && tick - written[place] >= settings[AGE]) {
                    return true;
                }
            }
            return false;
        }

        int markedBlocks() {
            int marks = 0;
            for (int block = 0; block < BLOCKS; block++) {
                if (isMarked(block)) {
                    marks++;
                }
            }
            return marks;
        }

        /** How many marked blocks would be moved ahead of this one. */
        int markedAhead(int block) {
            int ahead = 0;
            int own = hundredths(block);
            for (int other = 0; other < BLOCKS; other++) {
                if (other != block && isMarked(other)) {
                    int weakness = hundredths(other);
                    if (weakness > own || weakness == own && other < block) {
                        ahead++;
                    }
                }
            }
            return ahead;
        }

        int firstMarked() {
            int first = ABSENT;
            int greatest = ABSENT;
            for (int block = 0; block < BLOCKS; block++) {
                if (isMarked(block)) {
                    int weakness = hundredths(block);
                    if (weakness > greatest) {
                        greatest = weakness;
                        first = block;
                    }
                }
            }
            return first;
        }

        // ---- reads of places

        /** By how much a read of a place weakens a place of the same block. */
        int addedBy(int read, int place) {
            if (read == place) {
                return 1;
            }
            int distance = Math.abs(read - place);
            int added = distance == 1 ? 4 : distance == 2 ? 2 : 1;
            return kinds[place / PLACES_OF_BLOCK] == TIRED ? 2 * added : added;
        }

        /** How many reads of a place are left until one must not be done. */
        int readsLeft(int read) {
            int first = read - read % PLACES_OF_BLOCK;
            int limit = bears(read / PLACES_OF_BLOCK);
            int left = limit;
            for (int place = first; place < first + PLACES_OF_BLOCK; place++) {
                if (held[place] >= 0) {
                    int added = Math.max(1, addedBy(read, place));
                    left = Math.min(left, (limit - weakenings[place]) / added);
                }
            }
            return left;
        }

        boolean mayRead(int read) {
            int first = read - read % PLACES_OF_BLOCK;
            int limit = bears(read / PLACES_OF_BLOCK);
            for (int place = first; place < first + PLACES_OF_BLOCK; place++) {
                if (held[place] >= 0 && weakenings[place] + addedBy(read, place) > limit) {
                    return false;
                }
            }
            return true;
        }

        void readPlace(int read) {
            int first = read - read % PLACES_OF_BLOCK;
            for (int place = first; place < first + PLACES_OF_BLOCK; place++) {
                if (held[place] >= 0) {
                    weakenings[place] += addedBy(read, place);
                }
            }
            blockReads[read / PLACES_OF_BLOCK]++;
        }

        // ---- giving places

        /** The block in which the next page gets its place; ABSENT if there is no room. */
        int blockWithRoom() {
            if (isBlock(open) && used[open] < PLACES_OF_BLOCK) {
                return open;
            }
            int fresh = ABSENT;
            int fewest = 0;
            for (int block = 0; block < BLOCKS; block++) {
                if (isFree(block) && (fresh == ABSENT || erasures[block] < fewest)) {
                    fresh = block;
                    fewest = erasures[block];
                }
            }
            return fresh;
        }

        /** Puts a page at the lowest empty place of a block with room, which is the open one then. */
        void putInto(int block, int page) {
            if (!isPage(page) || used[block] < 0 || used[block] >= PLACES_OF_BLOCK) {
                return;
            }
            open = block;
            dropPlace(page);
            int place = block * PLACES_OF_BLOCK + used[block];
            used[block]++;
            held[place] = page;
            weakenings[place] = 0;
            written[place] = tick;
            placeOf[page] = place;
        }

        void dropPlace(int page) {
            int place = placeOf[page];
            if (place >= 0 && place < ALL_PLACES) {
                held[place] = STALE;
            }
            placeOf[page] = ABSENT;
        }

        // ---- moves and erasures

        int lowestPlaceWithPage(int block) {
            int first = block * PLACES_OF_BLOCK;
            for (int place = first; place < first + PLACES_OF_BLOCK; place++) {
                if (held[place] >= 0) {
                    return place;
                }
            }
            return ABSENT;
        }

        /** Moves the lowest page of a block; a block that cannot be moved on is not the open one any more, too. */
        boolean moveLowestPage(int block) {
            if (open == block) {
                open = ABSENT;
            }
            int target = blockWithRoom();
            int place = lowestPlaceWithPage(block);
            if (target == ABSENT || place == ABSENT || !mayRead(place)) {
                return false;
            }
            readPlace(place);
            putInto(target, held[place]);
            movedPages++;
            return true;
        }

        void erase(int block) {
            int greatest = 0;
            int first = block * PLACES_OF_BLOCK;
            for (int place = first; place < first + PLACES_OF_BLOCK; place++) {
                greatest = Math.max(greatest, weakenings[place]);
                held[place] = EMPTY;
                weakenings[place] = 0;
            }
            used[block] = 0;
            erasures[block]++;
            called[block] = false;
            if (open == block) {
                open = ABSENT;
            }
            log.note(block, tick, greatest);
        }

        /** Moves all pages of a block and erases it; how many they were, or NOT_POSSIBLE. */
        int moveWhole(int block) {
            int pages = pagesIn(block);
            for (int page = 0; page < pages; page++) {
                if (!moveLowestPage(block)) {
                    return NOT_POSSIBLE;
                }
            }
            erase(block);
            return pages;
        }

        /** Lets one tick pass; how many pages were moved in it. */
        int passOne() {
            tick++;
            int pages = 0;
            for (int step = 0; step < STEPS_OF_TICK && pages < settings[BUDGET]; step++) {
                int block = firstMarked();
                if (block == ABSENT) {
                    break;
                }
                if (pagesIn(block) > 0) {
                    if (!moveLowestPage(block)) {
                        break;
                    }
                    pages++;
                }
                if (pagesIn(block) == 0) {
                    erase(block);
                }
            }
            return pages;
        }

        // ---- acts

        int changeSetting(int which, int value) {
            if (!isSetting(which)) {
                return UNKNOWN;
            }
            if (value < LEAST_SETTINGS[which] || value > GREATEST_SETTINGS[which]) {
                return BAD_VALUE;
            }
            int previous = settings[which];
            if (previous == value) {
                return NONE;
            }
            settings[which] = value;
            buffer.shrinkTo(settings[BUFFER_SIZE]);
            return previous;
        }

        int changeKind(int block, int kind) {
            if (!isBlock(block)) {
                return UNKNOWN;
            }
            if (kind < 0 || kind > TIRED) {
                return BAD_VALUE;
            }
            if (!isFree(block)) {
                return NOT_POSSIBLE;
            }
            int previous = kinds[block];
            if (previous == kind) {
                return NONE;
            }
            kinds[block] = kind;
            return previous;
        }

        int changeCall(int block, boolean is) {
            if (!isBlock(block)) {
                return UNKNOWN;
            }
            if (isFree(block)) {
                return NOT_POSSIBLE;
            }
            if (called[block] == is) {
                return NONE;
            }
            called[block] = is;
            return markedBlocks();
        }

        int writePage(int page) {
            if (!isPage(page)) {
                return UNKNOWN;
            }
            int target = blockWithRoom();
            if (target == ABSENT) {
                return FULL;
            }
            putInto(target, page);
            // Writes leave the last free block to the moves.
            if (freeBlocks() == 0) {
                return FULL;
            }
            buffer.drop(page);
            return placeOf[page];
        }

        int readPage(int page) {
            if (!hasPlace(page)) {
                return UNKNOWN;
            }
            int answer = FROM_BUFFER;
            if (buffer.rankOf(page) == ABSENT) {
                answer = FROM_PLACE;
                if (!mayRead(placeOf[page])) {
                    answer = AFTER_MOVING;
                    if (settings[AT_ONCE] == 0 || moveWhole(placeOf[page] / PLACES_OF_BLOCK) < 0
                        || !mayRead(placeOf[page])) {
                        return NOT_POSSIBLE;
                    }
                }
                readPlace(placeOf[page]);
            } else {
                bufferReads++;
            }
            reads++;
            pageReads[page]++;
            buffer.putFirst(page, settings[BUFFER_SIZE]);
            return answer;
        }

        int forgetPage(int page) {
            if (!hasPlace(page)) {
                return UNKNOWN;
            }
            dropPlace(page);
            buffer.drop(page);
            return pagesInAll();
        }

        int moveOnDemand(int block) {
            if (!isBlock(block)) {
                return UNKNOWN;
            }
            if (isFree(block)) {
                return NOT_POSSIBLE;
            }
            return moveWhole(block);
        }

        int passTicks(int ticks) {
            if (ticks < 1 || ticks > TICKS_OF_CALL) {
                return BAD_VALUE;
            }
            if (tick + ticks > LAST_TICK) {
                return NOT_POSSIBLE;
            }
            int pages = 0;
            for (int passed = 0; passed < ticks; passed++) {
                pages += passOne();
            }
            return pages;
        }
    }

    /** The latest states, the latest one first; the rows are made once and used again. */
    private static final class History {
        final Store[] states = new Store[STATES_KEPT];
        int size = 0;

        History() {
            for (int back = 0; back < STATES_KEPT; back++) {
                states[back] = new Store();
            }
        }

        void record(Store state) {
            Store oldest = states[STATES_KEPT - 1];
            for (int back = STATES_KEPT - 1; back > 0; back--) {
                states[back] = states[back - 1];
            }
            states[0] = oldest;
            if (oldest != null) {
                oldest.copyFrom(state);
            }
            size = Math.min(size + 1, STATES_KEPT);
        }

        void takeLatest(Store state) {
            Store latest = states[0];
            if (size == 0 || latest == null) {
                return;
            }
            state.copyFrom(latest);
            for (int back = 1; back < STATES_KEPT; back++) {
                states[back - 1] = states[back];
            }
            states[STATES_KEPT - 1] = latest;
            size--;
        }
    }

    /** The text, and the orders that the latest parse found in it. */
    private static final class Orders {
        final char[] text = new char[TEXT_LIMIT];
        int length = 0;
        final char[] letters = new char[ORDERS_LIMIT];
        final int[] arguments = new int[ORDERS_LIMIT];
        final int[] times = new int[ORDERS_LIMIT];
        int number = 0;
        int at = 0;

        int append(char character) {
            if (length >= TEXT_LIMIT) {
                return FULL;
            }
            text[length] = character;
            length++;
            return length;
        }

        int empty() {
            int former = length;
            length = 0;
            return former;
        }

        char letterOf(int order) {
            return order < 0 || order >= number ? 't' : letters[order];
        }

        int argumentOf(int order) {
            return order < 0 || order >= number ? 0 : arguments[order];
        }

        int timesOf(int order) {
            return order < 0 || order >= number ? 0 : times[order];
        }

        /** Finds the orders of the text; answers its fault, or SOUND. */
        int parse() {
            number = 0;
            at = 0;
            for (int order = 0; order < ORDERS_LIMIT; order++) {
                if (!parseOrder()) {
                    return at;
                }
                if (at >= length) {
                    return SOUND;
                }
                if (text[at] != ',') {
                    return at;
                }
                at++;
            }
            return at;
        }

        /** Takes one order; if it has a fault, 'at' is left there. */
        boolean parseOrder() {
            if (at >= length || number >= ORDERS_LIMIT) {
                return false;
            }
            char letter = text[at];
            if (letter != 'r' && letter != 'w' && letter != 't') {
                return false;
            }
            at++;
            int argument = letter == 't' ? parseNumber(1, TICKS_OF_CALL) : parseNumber(0, PAGES - 1);
            if (argument == ABSENT) {
                return false;
            }
            int repeats = 1;
            if (letter == 'r' && at < length && text[at] == '*') {
                at++;
                repeats = parseNumber(1, TIMES_LIMIT);
                if (repeats == ABSENT) {
                    return false;
                }
            }
            letters[number] = letter;
            arguments[number] = argument;
            times[number] = repeats;
            number++;
            return true;
        }

        /** Takes as many digits as the range allows; ABSENT if not even one. */
        int parseNumber(int least, int greatest) {
            int value = digitAt(at);
            if (value == ABSENT || value < least) {
                return ABSENT;
            }
            at++;
            int next = digitAt(at);
            if (value > 0 && next != ABSENT && 10 * value + next <= greatest) {
                value = 10 * value + next;
                at++;
            }
            return value;
        }

        int digitAt(int index) {
            if (index < 0 || index >= length || text[index] < '0' || text[index] > '9') {
                return ABSENT;
            }
            return text[index] - '0';
        }
    }
}
