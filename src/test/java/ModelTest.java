import java.util.Random;

/** Long runs of calls, the same ones in each run of the test, compared with the model after each call. */
public final class ModelTest {
    private static final int RUNS = 400;
    private static final int CALLS = 400;
    private static final Due DUE = new Due();

    private final Random random;
    private final WeakenedPages pages = new WeakenedPages();
    private final Model model = new Model();
    private final int temper;
    private final int range;
    private final int run;
    private static final long[] SEEN = new long[4];

    private ModelTest(int run) {
        this.run = run;
        random = new Random(run);
        temper = random.nextInt(5);
        range = temper == 4 ? 4 + random.nextInt(6) : 8 + random.nextInt(17);
    }

    public static void main(String[] args) {
        for (int run = 0; run < RUNS && !DUE.anyWrong(); run++) {
            ModelTest test = new ModelTest(run);
            test.begin();
            for (int call = 0; call < CALLS && !DUE.anyWrong(); call++) {
                test.oneCall();
                test.compareAll();
            }
        }
        System.out.println("single reads: from the buffer " + SEEN[0] + ", from places " + SEEN[1] + ", after moving " + SEEN[2]
            + ", refused " + SEEN[3]);
        DUE.end("ModelTest");
    }

    private void same(String call, int want, int got) {
        DUE.is("run " + run + ": " + call, want, got);
    }

    private void begin() {
        if (temper >= 1) {
            for (int block = 0; block < 6; block++) {
                int kind = random.nextInt(3);
                same("setKind", model.setKind(block, kind), pages.setKind(block, kind));
            }
        }
        if (temper >= 2) {
            set(1, 1 + random.nextInt(30));
            set(2, random.nextInt(9));
        }
        if (temper >= 3) {
            set(3, 0);
            set(0, 100);
        }
        if (temper == 4) {
            set(2, 0);
        }
        for (int page = 0; page < range; page++) {
            if (random.nextInt(3) > 0) {
                same("write", model.write(page), pages.write(page));
            }
        }
    }

    private int aPage() {
        return random.nextInt(40) == 0 ? random.nextInt(60) - 20 : random.nextInt(range);
    }

    private int aBlock() {
        return random.nextInt(20) == 0 ? random.nextInt(12) - 4 : random.nextInt(6);
    }

    private void set(int which, int value) {
        same("set(" + which + ", " + value + ")", model.set(which, value), pages.set(which, value));
    }

    private void oneCall() {
        int choice = random.nextInt(100);
        if (choice < 20) {
            int page = aPage();
            same("write(" + page + ")", model.write(page), pages.write(page));
        } else if (choice < 45) {
            int page = aPage();
            int want = model.read(page);
            SEEN[want < 0 ? 3 : want]++;
            same("read(" + page + ")", want, pages.read(page));
        } else if (choice < 50 && temper == 4) {
            readToTheEdge(random.nextInt(range));
        } else if (choice < 65) {
            perform();
        } else if (choice < 68) {
            int page = aPage();
            same("forget(" + page + ")", model.forget(page), pages.forget(page));
        } else if (choice < 71) {
            int block = aBlock();
            same("moveBlock(" + block + ")", model.moveBlock(block), pages.moveBlock(block));
        } else if (choice < 79) {
            int ticks = random.nextInt(10) == 0 ? random.nextInt(110) - 5 : 1 + random.nextInt(5);
            same("pass(" + ticks + ")", model.pass(ticks), pages.pass(ticks));
        } else if (choice < 84) {
            int block = aBlock();
            boolean is = random.nextInt(3) > 0;
            same("mark(" + block + ", " + is + ")", model.mark(block, is), pages.mark(block, is));
        } else if (choice < 87) {
            int block = aBlock();
            int kind = random.nextInt(5) - 1;
            same("setKind(" + block + ", " + kind + ")", model.setKind(block, kind), pages.setKind(block, kind));
        } else if (choice < 92) {
            changeSetting();
        } else if (choice < 97) {
            same("undo()", model.undo(), pages.undo());
        } else if (choice < 98) {
            same("keep()", model.keep(), pages.keep());
        } else if (choice < 99) {
            same("restore()", model.restore(), pages.restore());
        } else {
            type((char) random.nextInt(65536));
        }
    }

    private void changeSetting() {
        int which = random.nextInt(7) - 1;
        if (temper == 4 && which >= 2) {
            return;
        }
        int[] most = {101, 40, 9, 5, 2};
        int value = which < 0 || which > 4 ? 1 : random.nextInt(most[which] + 2) - 1;
        set(which, value);
    }

    private void type(char character) {
        same("type(" + (int) character + ")", model.type(character), pages.type(character));
    }

    private void perform() {
        same("clearText()", model.clearText(), pages.clearText());
        StringBuilder text = new StringBuilder();
        int orders = 1 + random.nextInt(6);
        for (int order = 0; order < orders; order++) {
            text.append(order == 0 ? "" : ",");
            switch (random.nextInt(8)) {
                case 0 -> text.append('w').append(random.nextInt(range));
                case 1 -> text.append('t').append(1 + random.nextInt(random.nextInt(3) == 0 ? 99 : 4));
                case 2, 3, 4 -> text.append('r').append(random.nextInt(range)).append('*').append(1 + random.nextInt(99));
                default -> text.append('r').append(random.nextInt(range));
            }
        }
        if (random.nextInt(4) == 0) {
            spoil(text);
        }
        for (int index = 0; index < text.length(); index++) {
            type(text.charAt(index));
        }
        same("perform() of " + text, model.perform(), pages.perform());
        for (int what = -1; what <= 3; what++) {
            same("refusal(" + what + ") after " + text, model.refusal(what), pages.refusal(what));
        }
    }

    /** Reads a page until its place must not be read, and then once more. */
    private void readToTheEdge(int page) {
        int left = model.page(page, 3);
        while (left > 0) {
            int times = Math.min(left, 99);
            same("clearText()", model.clearText(), pages.clearText());
            for (char sign : ("r" + page + "*" + times).toCharArray()) {
                type(sign);
            }
            same("perform()", model.perform(), pages.perform());
            left -= times;
        }
        int want = model.read(page);
        SEEN[want < 0 ? 3 : want]++;
        same("read(" + page + ") at the edge", want, pages.read(page));
    }

    private void spoil(StringBuilder text) {
        String signs = "rwt0123456789,*9 +-";
        int index = random.nextInt(text.length());
        switch (random.nextInt(3)) {
            case 0 -> text.setCharAt(index, signs.charAt(random.nextInt(signs.length())));
            case 1 -> text.insert(index, signs.charAt(random.nextInt(signs.length())));
            default -> text.deleteCharAt(index);
        }
    }

    private void compareAll() {
        for (int page = -1; page <= 24; page++) {
            for (int what = -1; what <= 6; what++) {
                same("page(" + page + ", " + what + ")", model.page(page, what), pages.page(page, what));
            }
        }
        for (int block = -1; block <= 6; block++) {
            for (int what = -1; what <= 10; what++) {
                same("block(" + block + ", " + what + ")", model.block(block, what), pages.block(block, what));
            }
            for (int place = -1; place <= 8; place++) {
                for (int what = -1; what <= 3; what++) {
                    same("place(" + block + ", " + place + ", " + what + ")", model.place(block, place, what),
                        pages.place(block, place, what));
                }
            }
        }
        for (int rank = -1; rank <= 7; rank++) {
            same("marked(" + rank + ")", model.marked(rank), pages.marked(rank));
        }
        for (int back = -1; back <= 9; back++) {
            for (int what = -1; what <= 3; what++) {
                same("erasure(" + back + ", " + what + ")", model.erasure(back, what), pages.erasure(back, what));
            }
        }
        for (int what = -1; what <= 13; what++) {
            same("count(" + what + ")", model.count(what), pages.count(what));
        }
        for (int which = -1; which <= 5; which++) {
            same("setting(" + which + ")", model.setting(which), pages.setting(which));
        }
        if (random.nextInt(8) == 0) {
            same("quietIn()", model.quietIn(), pages.quietIn());
        }
    }
}
