/** Compares answers with those that are due, and tells how many were not. */
final class Due {
    private int checks = 0;
    private int wrong = 0;

    void is(String call, long want, long got) {
        checks++;
        if (want != got) {
            wrong++;
            if (wrong <= 50) {
                System.out.println(call + " answered " + got + ", due is " + want);
            }
        }
    }

    void same(String call, String want, String got) {
        checks++;
        if (!want.equals(got)) {
            wrong++;
            System.out.println(call + " answered " + got + ", due is " + want);
        }
    }

    boolean anyWrong() {
        return wrong != 0;
    }

    void end(String test) {
        System.out.println(test + ": " + checks + " answers, " + wrong + " not as due");
        if (wrong != 0) {
            System.exit(1);
        }
    }
}
