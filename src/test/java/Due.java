/** Counts the answers that are due and those that are not; the tests end with its report. */
final class Due {
    private final String test;
    private int passed;
    private int failed;

    Due(String test) {
        this.test = test;
    }

    void is(String call, long got, long want) {
        if (got == want) {
            passed++;
        } else {
            failed++;
            System.out.println(test + ": " + call + " answered " + got + ", due is " + want);
        }
    }

    void holds(String what, boolean so) {
        is(what, so ? 1 : 0, 1);
    }

    /** Asks the same telling call of a gantry before and after: the numbers of the whole, told at once. */
    static String whole(RosetteGantry x) {
        StringBuilder told = new StringBuilder();
        for (int what = 0; what <= 8; what++) {
            told.append(x.count(what)).append(' ');
        }
        for (int r = 0; r < x.count(0); r++) {
            for (int what = 0; what <= 11; what++) {
                told.append(x.rosette(r, what)).append(' ');
            }
            for (int what = 0; what <= 7; what++) {
                told.append(x.gauge(r, 0, what)).append(' ').append(x.gauge(r, 1, what)).append(' ');
                told.append(x.gauge(r, 2, what)).append(' ').append(x.principal(r, what)).append(' ');
            }
        }
        for (int i = 0; i < 20; i++) {
            for (int what = 0; what <= 4; what++) {
                told.append(x.job(i, what)).append(' ');
            }
        }
        for (int i = 0; i < 12; i++) {
            for (int what = 0; what <= 3; what++) {
                told.append(x.record(i, what)).append(' ');
            }
        }
        return told.toString();
    }

    static void typeAll(RosetteGantry x, String text) {
        x.clearText();
        for (int i = 0; i < text.length(); i++) {
            x.type(text.charAt(i));
        }
    }

    void end() {
        System.out.println(test + ": " + passed + " passed, " + failed + " failed");
        if (failed != 0 || passed == 0) {
            System.exit(1);
        }
    }
}
