import java.util.ArrayDeque;
import java.util.ArrayList;
import java.util.Comparator;
import java.util.Deque;
import java.util.List;
import java.util.regex.Matcher;
import java.util.regex.Pattern;

/** The document told once more, slowly and by other means, to compare the class with. */
final class Model {
    static final int UNKNOWN = -1;
    static final int BAD_VALUE = -2;
    static final int FULL = -3;
    static final int NOT_POSSIBLE = -4;
    static final int NONE = -5;

    /** An act that can't be done; it is thrown ahead of, or amid, changes to a copy that is then let go. */
    private static final class Refused extends RuntimeException {
        private static final long serialVersionUID = 1L;
        final int error;

        Refused(int error) {
            super(null, null, false, false);
            this.error = error;
        }
    }

    private static final class Place {
        boolean filled;
        Integer page;
        int weakening;
        int written;

        Place copy() {
            Place copy = new Place();
            copy.filled = filled;
            copy.page = page;
            copy.weakening = weakening;
            copy.written = written;
            return copy;
        }
    }

    private static final class Block {
        final int number;
        int kind;
        int erasures;
        int reads;
        boolean called;
        final List<Place> places = new ArrayList<>();

        Block(int number, int kind) {
            this.number = number;
            this.kind = kind;
        }

        Block copy() {
            Block copy = new Block(number, kind);
            copy.erasures = erasures;
            copy.reads = reads;
            copy.called = called;
            for (Place place : places) {
                copy.places.add(place.copy());
            }
            return copy;
        }

        int bears() {
            int bears = kind == 0 ? 400 - 4 * erasures : kind == 1 ? 200 - 5 * erasures : 100 - 10 * erasures;
            return Math.max(20, bears);
        }

        List<Place> withPages() {
            List<Place> found = new ArrayList<>();
            for (Place place : places) {
                if (place.page != null) {
                    found.add(place);
                }
            }
            return found;
        }

        boolean blank() {
            return places.stream().noneMatch(place -> place.filled);
        }

        boolean hasEmptyPlace() {
            return places.stream().anyMatch(place -> !place.filled);
        }

        int greatest() {
            return withPages().stream().mapToInt(place -> place.weakening).max().orElse(0);
        }

        int hundredths() {
            return (int) Math.floor(greatest() * 100.0 / bears() + 1e-9);
        }

        int[] afterReadOf(int read) {
            int[] after = new int[8];
            for (int index = 0; index < 8; index++) {
                Place place = places.get(index);
                after[index] = place.weakening;
                if (place.page == null) {
                    continue;
                }
                int factor = kind == 2 ? 2 : 1;
                switch (Math.abs(index - read)) {
                    case 0 -> after[index] += 1;
                    case 1 -> after[index] += 4 * factor;
                    case 2 -> after[index] += 2 * factor;
                    default -> after[index] += factor;
                }
            }
            return after;
        }

        boolean bearsReadOf(int read) {
            int[] after = afterReadOf(read);
            for (int index = 0; index < 8; index++) {
                if (places.get(index).page != null && after[index] > bears()) {
                    return false;
                }
            }
            return true;
        }

        void readPlace(int read) {
            if (!bearsReadOf(read)) {
                throw new Refused(NOT_POSSIBLE);
            }
            int[] after = afterReadOf(read);
            for (int index = 0; index < 8; index++) {
                places.get(index).weakening = after[index];
            }
            reads++;
        }
    }

    private static final class State {
        final List<Block> blocks = new ArrayList<>();
        Block open;
        List<Integer> buffer = new ArrayList<>();
        int[] settings = {75, 200, 1, 2, 1};
        int[] readsOf = new int[24];
        List<int[]> erased = new ArrayList<>();
        int tick;
        int reads;
        int fromBuffer;
        int moved;

        State copy() {
            State copy = new State();
            for (Block block : blocks) {
                copy.blocks.add(block.copy());
            }
            copy.open = open == null ? null : copy.blocks.get(open.number);
            copy.buffer = new ArrayList<>(buffer);
            copy.settings = settings.clone();
            copy.readsOf = readsOf.clone();
            copy.erased = new ArrayList<>(erased);
            copy.tick = tick;
            copy.reads = reads;
            copy.fromBuffer = fromBuffer;
            copy.moved = moved;
            return copy;
        }

        int[] whereIs(int page) {
            for (Block block : blocks) {
                for (int place = 0; place < 8; place++) {
                    if (block.places.get(place).page != null && block.places.get(place).page == page) {
                        return new int[] {block.number, place};
                    }
                }
            }
            return null;
        }

        boolean free(Block block) {
            return block != open && block.blank();
        }

        List<Block> freeBlocks() {
            List<Block> found = new ArrayList<>(blocks);
            found.removeIf(block -> !free(block));
            return found;
        }

        boolean marked(Block block) {
            if (block.called || 100 * block.greatest() >= settings[0] * block.bears()) {
                return true;
            }
            return block.withPages().stream().anyMatch(place -> place.written + settings[1] <= tick);
        }

        List<Block> markedInOrder() {
            List<Block> found = new ArrayList<>(blocks);
            found.removeIf(block -> !marked(block));
            found.sort(Comparator.comparingInt((Block block) -> -block.hundredths()).thenComparingInt(block -> block.number));
            return found;
        }

        boolean room() {
            return open != null && open.hasEmptyPlace() || !freeBlocks().isEmpty();
        }

        void give(int page) {
            if (!room()) {
                throw new Refused(FULL);
            }
            if (open == null || !open.hasEmptyPlace()) {
                open = freeBlocks().stream().min(Comparator.comparingInt((Block block) -> block.erasures)
                    .thenComparingInt(block -> block.number)).get();
            }
            int[] former = whereIs(page);
            if (former != null) {
                blocks.get(former[0]).places.get(former[1]).page = null;
            }
            for (Place place : open.places) {
                if (!place.filled) {
                    place.filled = true;
                    place.page = page;
                    place.weakening = 0;
                    place.written = tick;
                    return;
                }
            }
        }

        int firstWithPage(Block block) {
            for (int place = 0; place < 8; place++) {
                if (block.places.get(place).page != null) {
                    return place;
                }
            }
            return -1;
        }

        void moveFirst(Block block) {
            if (open == block) {
                open = null;
            }
            int place = firstWithPage(block);
            if (!room()) {
                throw new Refused(NOT_POSSIBLE);
            }
            block.readPlace(place);
            give(block.places.get(place).page);
            moved++;
        }

        void erase(Block block) {
            int had = 0;
            for (int place = 0; place < 8; place++) {
                had = Math.max(had, block.places.get(place).weakening);
                block.places.set(place, new Place());
            }
            block.erasures++;
            block.called = false;
            open = open == block ? null : open;
            erased.add(new int[] {block.number, tick, had});
        }

        int moveAll(Block block) {
            int pages = 0;
            while (firstWithPage(block) >= 0) {
                moveFirst(block);
                pages++;
            }
            erase(block);
            return pages;
        }

        int tick() {
            tick++;
            int budget = settings[2];
            while (budget > 0 && !markedInOrder().isEmpty()) {
                Block block = markedInOrder().get(0);
                if (firstWithPage(block) >= 0) {
                    try {
                        moveFirst(block);
                    } catch (Refused refused) {
                        break;
                    }
                    budget--;
                }
                if (firstWithPage(block) < 0) {
                    erase(block);
                }
            }
            return settings[2] - budget;
        }

        int write(int page) {
            if (page < 0 || page > 23) {
                throw new Refused(UNKNOWN);
            }
            give(page);
            if (freeBlocks().isEmpty()) {
                throw new Refused(FULL);
            }
            buffer.remove((Integer) page);
            int[] where = whereIs(page);
            return 8 * where[0] + where[1];
        }

        int read(int page) {
            int[] where = whereIs(page);
            if (where == null) {
                throw new Refused(UNKNOWN);
            }
            int answer = 0;
            if (buffer.contains(page)) {
                fromBuffer++;
            } else {
                answer = 1;
                if (!blocks.get(where[0]).bearsReadOf(where[1])) {
                    if (settings[4] == 0) {
                        throw new Refused(NOT_POSSIBLE);
                    }
                    moveAll(blocks.get(where[0]));
                    where = whereIs(page);
                    answer = 2;
                }
                blocks.get(where[0]).readPlace(where[1]);
            }
            buffer.remove((Integer) page);
            buffer.add(0, page);
            cutBuffer();
            reads++;
            readsOf[page]++;
            return answer;
        }

        void cutBuffer() {
            while (buffer.size() > settings[3]) {
                buffer.remove(buffer.size() - 1);
            }
        }

        int pass(int ticks) {
            if (ticks < 1 || ticks > 99) {
                throw new Refused(BAD_VALUE);
            }
            if (tick + ticks > 99999) {
                throw new Refused(NOT_POSSIBLE);
            }
            int pages = 0;
            for (int passed = 0; passed < ticks; passed++) {
                pages += tick();
            }
            return pages;
        }
    }

    private interface Act {
        int on(State state);
    }

    private static final String PAGE = "(?:2[0-3]?|1[0-9]?|[03-9])";
    private static final String ORDER = "(?:r" + PAGE + "(?:\\*[1-9][0-9]?)?|w" + PAGE + "|t[1-9][0-9]?)";
    private static final Pattern TEXT = Pattern.compile(ORDER + "(?:," + ORDER + ")*");
    private static final int[][] RANGES = {{10, 100}, {1, 999}, {0, 8}, {0, 4}, {0, 1}};

    private State now = new State();
    private State snapshot;
    private final Deque<State> history = new ArrayDeque<>();
    private final StringBuilder text = new StringBuilder();
    private int[] refusal;

    Model() {
        int[] kinds = {0, 0, 1, 1, 1, 2};
        for (int number = 0; number < 6; number++) {
            Block block = new Block(number, kinds[number]);
            for (int place = 0; place < 8; place++) {
                block.places.add(new Place());
            }
            now.blocks.add(block);
        }
    }

    private int act(Act act) {
        State next = now.copy();
        int answer;
        try {
            answer = act.on(next);
        } catch (Refused refused) {
            return refused.error;
        }
        history.push(now);
        if (history.size() > 4) {
            history.removeLast();
        }
        now = next;
        return answer;
    }

    private static void need(boolean holds, int error) {
        if (!holds) {
            throw new Refused(error);
        }
    }

    int set(int which, int value) {
        return act(state -> {
            need(which >= 0 && which <= 4, UNKNOWN);
            need(value >= RANGES[which][0] && value <= RANGES[which][1], BAD_VALUE);
            int former = state.settings[which];
            need(former != value, NONE);
            state.settings[which] = value;
            state.cutBuffer();
            return former;
        });
    }

    int setKind(int block, int kind) {
        return act(state -> {
            need(block >= 0 && block <= 5, UNKNOWN);
            need(kind >= 0 && kind <= 2, BAD_VALUE);
            need(state.free(state.blocks.get(block)), NOT_POSSIBLE);
            int former = state.blocks.get(block).kind;
            need(former != kind, NONE);
            state.blocks.get(block).kind = kind;
            return former;
        });
    }

    int mark(int block, boolean is) {
        return act(state -> {
            need(block >= 0 && block <= 5, UNKNOWN);
            need(!state.free(state.blocks.get(block)), NOT_POSSIBLE);
            need(state.blocks.get(block).called != is, NONE);
            state.blocks.get(block).called = is;
            return state.markedInOrder().size();
        });
    }

    int write(int page) {
        return act(state -> state.write(page));
    }

    int read(int page) {
        return act(state -> state.read(page));
    }

    int forget(int page) {
        return act(state -> {
            int[] where = state.whereIs(page);
            need(where != null, UNKNOWN);
            state.blocks.get(where[0]).places.get(where[1]).page = null;
            state.buffer.remove((Integer) page);
            return state.blocks.stream().mapToInt(block -> block.withPages().size()).sum();
        });
    }

    int moveBlock(int block) {
        return act(state -> {
            need(block >= 0 && block <= 5, UNKNOWN);
            need(!state.free(state.blocks.get(block)), NOT_POSSIBLE);
            return state.moveAll(state.blocks.get(block));
        });
    }

    int pass(int ticks) {
        return act(state -> state.pass(ticks));
    }

    int type(char character) {
        if (text.length() == 60) {
            return FULL;
        }
        return text.append(character).length();
    }

    int clearText() {
        int length = text.length();
        text.setLength(0);
        return length;
    }

    private int fault() {
        for (int length = 1; length <= text.length(); length++) {
            Matcher matcher = TEXT.matcher(text.substring(0, length));
            if (!matcher.matches() && !matcher.hitEnd()) {
                return length - 1;
            }
        }
        return TEXT.matcher(text).matches() ? -1 : text.length();
    }

    int perform() {
        int fault = fault();
        if (fault >= 0) {
            return -100 - fault;
        }
        String[] orders = text.toString().split(",");
        return act(state -> {
            for (int order = 0; order < orders.length; order++) {
                String[] parts = orders[order].substring(1).split("\\*");
                int argument = Integer.parseInt(parts[0]);
                int times = parts.length == 1 ? 1 : Integer.parseInt(parts[1]);
                for (int done = 0; done < times; done++) {
                    try {
                        switch (orders[order].charAt(0)) {
                            case 'r' -> state.read(argument);
                            case 'w' -> state.write(argument);
                            default -> state.pass(argument);
                        }
                    } catch (Refused refused) {
                        refusal = new int[] {order, refused.error, done};
                        throw new Refused(NOT_POSSIBLE);
                    }
                }
            }
            return orders.length;
        });
    }

    int refusal(int what) {
        if (what < 0 || what > 2) {
            return BAD_VALUE;
        }
        return refusal == null ? NONE : refusal[what];
    }

    int undo() {
        if (history.isEmpty()) {
            return NONE;
        }
        now = history.pop();
        return history.size();
    }

    int keep() {
        snapshot = now.copy();
        return now.tick;
    }

    int restore() {
        if (snapshot == null) {
            return NONE;
        }
        history.push(now);
        if (history.size() > 4) {
            history.removeLast();
        }
        now = snapshot.copy();
        return now.tick;
    }

    int page(int page, int what) {
        if (page < 0 || page > 23) {
            return UNKNOWN;
        }
        if (what < 0 || what > 5) {
            return BAD_VALUE;
        }
        int[] where = now.whereIs(page);
        if (what == 4) {
            return now.buffer.contains(page) ? now.buffer.indexOf(page) : NONE;
        }
        if (what == 5) {
            return now.readsOf[page];
        }
        if (where == null) {
            return NONE;
        }
        Block block = now.blocks.get(where[0]);
        switch (what) {
            case 0: return 8 * where[0] + where[1];
            case 1: return block.places.get(where[1]).weakening;
            case 2: return now.tick - block.places.get(where[1]).written;
            default:
                Block copy = block.copy();
                int left = 0;
                while (copy.bearsReadOf(where[1])) {
                    copy.readPlace(where[1]);
                    left++;
                }
                return left;
        }
    }

    int block(int block, int what) {
        if (block < 0 || block > 5) {
            return UNKNOWN;
        }
        Block asked = now.blocks.get(block);
        switch (what) {
            case 0: return asked.kind;
            case 1: return asked.erasures;
            case 2: return asked.bears();
            case 3: return asked.withPages().size();
            case 4: return (int) asked.places.stream().filter(place -> place.filled && place.page == null).count();
            case 5: return asked.greatest();
            case 6: return now.marked(asked) ? 1 : 0;
            case 7: return now.free(asked) ? 1 : 0;
            case 8: return asked.reads;
            case 9: return asked.called ? 1 : 0;
            default: return BAD_VALUE;
        }
    }

    int place(int block, int place, int what) {
        if (block < 0 || block > 5 || place < 0 || place > 7) {
            return UNKNOWN;
        }
        Place asked = now.blocks.get(block).places.get(place);
        switch (what) {
            case 0: return asked.page == null ? NONE : asked.page;
            case 1: return !asked.filled ? 0 : asked.page != null ? 1 : 2;
            case 2: return asked.weakening;
            default: return BAD_VALUE;
        }
    }

    int marked(int rank) {
        if (rank < 0) {
            return BAD_VALUE;
        }
        List<Block> order = now.markedInOrder();
        return rank < order.size() ? order.get(rank).number : NONE;
    }

    int quietIn() {
        State later = now.copy();
        int ticks = 0;
        while (!later.markedInOrder().isEmpty()) {
            if (ticks == 300) {
                return NONE;
            }
            later.tick();
            ticks++;
        }
        return ticks;
    }

    int erasure(int back, int what) {
        if (back < 0 || what < 0 || what > 2) {
            return BAD_VALUE;
        }
        if (back > 7 || back >= now.erased.size()) {
            return NONE;
        }
        return now.erased.get(now.erased.size() - 1 - back)[what];
    }

    int count(int what) {
        switch (what) {
            case 0: return now.tick;
            case 1: return now.blocks.stream().mapToInt(block -> block.withPages().size()).sum();
            case 2: return now.freeBlocks().size();
            case 3: return now.open == null ? NONE : now.open.number;
            case 4: return now.markedInOrder().size();
            case 5: return now.reads;
            case 6: return now.fromBuffer;
            case 7: return now.moved;
            case 8: return now.erased.size();
            case 9: return now.buffer.size();
            case 10: return now.blocks.stream().mapToInt(Block::hundredths).max().orElse(0);
            case 11: return history.size();
            case 12: return text.length();
            default: return BAD_VALUE;
        }
    }

    int setting(int which) {
        return which < 0 || which > 4 ? UNKNOWN : now.settings[which];
    }
}
