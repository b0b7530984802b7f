/** Promises 12 to 14: type, clearText, readJobs. */
public final class TextsTest {
    private static final int UNKNOWN = -1000001;
    private static final int REFUSED = -1000003;
    private static final Due DUE = new Due("TextsTest");

    public static void main(String[] args) {
        type();
        clearText();
        faults();
        readJobs();
        readJobsRefused();
        longTexts();
        DUE.end();
    }

    private static void type() {
        RosetteGantry x = new RosetteGantry();
        char[] any = {'r', 0, ' ', 255, 256, 0xFFFF, '!'};
        for (int i = 0; i < any.length; i++) {
            DUE.is("12: type", x.type(any[i]), i + 1);
        }
        for (int i = any.length; i < 60; i++) {
            DUE.is("12: type", x.type('x'), i + 1);
        }
        DUE.is("12: the 61st", x.type('x'), REFUSED);
        DUE.is("12: reason 1", x.count(9), 1);
        DUE.is("12: still 60", x.count(11), 60);
        DUE.is("12: no act", x.count(10), 0);
        x.clearText();
        DUE.is("12: there is room again", x.type('r'), 1);
        DUE.is("12: the reason stays", x.count(9), 1);
    }

    private static void clearText() {
        RosetteGantry x = new RosetteGantry();
        DUE.is("13: empty", x.clearText(), 0);
        x.type('r');
        x.type('0');
        DUE.is("13: two", x.clearText(), 2);
        DUE.is("13: empty then", x.count(11), 0);
        DUE.is("13: empty", x.clearText(), 0);
        DUE.is("13: no act", x.count(10), 0);
        DUE.is("13: it reads as empty", x.readJobs(), -100);
        x.type('b');
        DUE.is("13: typed anew", x.readJobs(), -101);
    }

    private static void faults() {
        String[] texts = {
            "", "r", "x", "R0", "0", "!", ",", "r8", "r9", "r!", "r,", "r0,", "r0,,", "r0b1", "r0!", "r0!x", "r0!!",
            "r0!10", "r0!1!", "r0!1r", "r0 ", " r0", "r0,b", "r0,b1!", "r0,b1!7,", "r0,b1!7,s", "r0,b1!7,s8", "b/",
            "s:", "r-1", "r0!-1", "r0!:", "r0!/", "r0\u0100", "r\u0130", "\u0172", "r0,x", "q0", "t0", "a0", "c0",
            "r0-", "r0\"", "r00"};
        int[] fault = {
            0, 1, 0, 0, 0, 0, 0, 1, 1, 1, 1, 3, 3, 2, 3, 3, 3,
            4, 4, 4, 2, 0, 4, 6, 8, 9, 9, 1,
            1, 1, 3, 3, 3, 2, 1, 0, 3, 0, 0, 0, 0,
            2, 2, 2};
        DUE.is("14: as many faults as texts", fault.length, texts.length);
        RosetteGantry x = new RosetteGantry();
        x.addRosette(0, true, 120, 200);
        for (int i = 0; i < texts.length; i++) {
            Due.typeAll(x, texts[i]);
            DUE.is("14: readJobs() of <" + texts[i] + ">", x.readJobs(), -100 - fault[i]);
        }
        DUE.is("14: nothing is requested", x.count(2), 0);
        DUE.is("14: an error is not recorded", x.count(10), 1);
        DUE.is("14: an error sets no reason", x.count(9), 0);
        Due.typeAll(x, "r7,x");
        DUE.is("14: the fault is asked ahead of the rosette", x.readJobs(), -103);
    }

    private static void readJobs() {
        RosetteGantry x = new RosetteGantry();
        x.addRosette(100, true, 120, 200);
        x.addRosette(200, true, 120, 200);
        x.request(0, 1, 0);
        Due.typeAll(x, "s1!0,r0,b1!5,r0!9");
        DUE.is("14: four", x.readJobs(), 4);
        DUE.is("14: the text stays", x.count(11), 17);
        DUE.is("14: five wait", x.count(1), 5);
        int[][] jobs = {{4, 0, 0, 9, 100}, {2, 0, 0, 5, 100}, {3, 1, 1, 5, 200}, {0, 0, 1, 0, 200}, {1, 2, 1, 0, 200}};
        for (int i = 0; i < jobs.length; i++) {
            for (int what = 0; what < 5; what++) {
                DUE.is("14: job(" + i + ", " + what + ")", x.job(i, what), jobs[i][what]);
            }
        }
        DUE.is("14: one act", x.count(10), 4);
        DUE.is("14: undo()", x.undo(), 3);
        DUE.is("14: one waits", x.count(1), 1);
        DUE.is("14: all requests", x.count(2), 1);
        DUE.is("14: the text is no part of the state", x.count(11), 17);
        DUE.is("14: read again", x.readJobs(), 4);
        DUE.is("14: and once more", x.readJobs(), 4);
        DUE.is("14: all requests", x.count(2), 9);
    }

    private static void readJobsRefused() {
        RosetteGantry x = new RosetteGantry();
        Due.typeAll(x, "r0");
        DUE.is("14: no rosette is there", x.readJobs(), UNKNOWN);
        x.addRosette(100, true, 120, 200);
        Due.typeAll(x, "r0,r0,r1");
        DUE.is("14: one is unknown", x.readJobs(), UNKNOWN);
        Due.typeAll(x, "r7,r0");
        DUE.is("14: the first is unknown", x.readJobs(), UNKNOWN);
        DUE.is("14: none of them is requested", x.count(2), 0);
        for (int i = 0; i < 18; i++) {
            x.request(0, 0, 5);
        }
        Due.typeAll(x, "r0,b0,s0");
        DUE.is("14: 21 would wait", x.readJobs(), REFUSED);
        DUE.is("14: reason 1", x.count(9), 1);
        DUE.is("14: none is requested", x.count(1), 18);
        Due.typeAll(x, "r0,b0,s1");
        DUE.is("14: unknown is asked first", x.readJobs(), UNKNOWN);
        Due.typeAll(x, "r0,b0");
        DUE.is("14: 20 wait", x.readJobs(), 2);
        DUE.is("14: they wait", x.count(1), 20);
        Due.typeAll(x, "r0");
        DUE.is("14: one too many", x.readJobs(), REFUSED);
    }

    private static void longTexts() {
        RosetteGantry x = new RosetteGantry();
        x.addRosette(100, true, 120, 200);
        StringBuilder text = new StringBuilder("r0");
        for (int i = 1; i < 20; i++) {
            text.append(",r0");
        }
        Due.typeAll(x, text.toString());
        DUE.is("14: 59 characters", x.count(11), 59);
        DUE.is("14: twenty jobs", x.readJobs(), 20);
        DUE.is("14: the last one", x.job(19, 0), 19);
        DUE.is("14: and no more", x.readJobs(), REFUSED);
        x.type(',');
        DUE.is("14: the fault is behind the end", x.readJobs(), -160);
        Due.typeAll(x, text.toString() + "!");
        DUE.is("14: 60 characters", x.readJobs(), -160);
        Due.typeAll(x, text.toString() + "x");
        DUE.is("14: the last character", x.readJobs(), -159);
        x.workOff();
        Due.typeAll(x, text.toString());
        DUE.is("14: twenty more", x.readJobs(), 20);
        DUE.is("14: all requests", x.count(2), 40);
    }
}
