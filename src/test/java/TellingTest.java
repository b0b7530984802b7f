/** Promises 18 to 25: rosette, gauge, principal, pull, job, record, neighbour, count. */
public final class TellingTest {
    private static final int UNKNOWN = -1000001;
    private static final int BAD_VALUE = -1000002;
    private static final int NONE = -1000004;
    private static final int[] COSINES = {10000, 9659, 8660, 7071, 5000, 2588, 0};
    private static final Due DUE = new Due("TellingTest");

    public static void main(String[] args) {
        rosette();
        gaugeOfRight();
        gaugeOfDelta();
        gaugeRounding();
        gaugeOverloaded();
        principalOfRight();
        principalOfDelta();
        principalDirections();
        pull();
        job();
        record();
        neighbour();
        count();
        DUE.end();
    }

    private static void tells(String promise, int[] got, int[] want) {
        for (int i = 0; i < want.length; i++) {
            DUE.is(promise + " what " + i, got[i], want[i]);
        }
    }

    private static int[] gauge(RosetteGantry x, int rosette, int gauge) {
        int[] told = new int[8];
        for (int what = 0; what < told.length; what++) {
            told[what] = x.gauge(rosette, gauge, what);
        }
        return told;
    }

    private static int[] principal(RosetteGantry x, int rosette) {
        int[] told = new int[8];
        for (int what = 0; what < told.length; what++) {
            told[what] = x.principal(rosette, what);
        }
        return told;
    }

    private static void rosette() {
        RosetteGantry x = new RosetteGantry();
        DUE.is("18: none there", x.rosette(0, 12), UNKNOWN);
        x.addRosette(7, false, 350, 200);
        x.addRosette(8, true, 120, 181);
        x.setLeads(1, 900);
        x.setStrain(1, 10, -20, 30);
        x.setShunt(1, true);
        x.request(0, 1, 5);
        x.request(0, 1, 6);
        x.request(0, 0, 6);
        int[] due = {8, 1, 120, 181, 900, 10, -20, 30, 1, 1198, 0, 2};
        for (int what = 0; what < due.length; what++) {
            DUE.is("18: what " + what, x.rosette(1, what), due[what]);
        }
        DUE.is("18: right", x.rosette(0, 1), 0);
        DUE.is("18: the shunt value with the shunt off", x.rosette(0, 9), 3487);
        DUE.is("18: jobs for 0", x.rosette(0, 11), 1);
        DUE.is("18: what -1", x.rosette(0, -1), BAD_VALUE);
        DUE.is("18: what 12", x.rosette(0, 12), BAD_VALUE);
        DUE.is("18: rosette 2", x.rosette(2, 0), UNKNOWN);
        DUE.is("18: rosette -1", x.rosette(-1, 0), UNKNOWN);
        DUE.is("18: rosette 8", x.rosette(8, 0), UNKNOWN);
    }

    private static void gaugeOfRight() {
        RosetteGantry x = new RosetteGantry();
        DUE.is("19: none there", x.gauge(0, 0, 8), UNKNOWN);
        x.addRosette(100, false, 350, 200);
        x.setStrain(0, 1000, -200, 600);
        x.setOffset(0, 1, 400);
        tells("19: gauge 0", gauge(x, 0, 0), new int[] {0, 1000, 2000, 2000, 0, 1000, 1000, 3487});
        tells("19: gauge 1", gauge(x, 0, 1), new int[] {400, 700, 1800, 1800, 0, 1000, 900, 3487});
        tells("19: gauge 2", gauge(x, 0, 2), new int[] {0, -200, -400, -400, 0, 1000, -200, 3487});
        x.setLeads(0, 10000);
        x.setShunt(0, true);
        tells("19: with the shunt", gauge(x, 0, 0), new int[] {0, 1000, 5334, 5334, 0, 1000, 2667, 3390});
        DUE.is("19: gauge 3", x.gauge(0, 3, 8), UNKNOWN);
        DUE.is("19: gauge -1", x.gauge(0, -1, 0), UNKNOWN);
        DUE.is("19: rosette 1", x.gauge(1, 0, 0), UNKNOWN);
        DUE.is("19: rosette -1", x.gauge(-1, 0, 0), UNKNOWN);
        DUE.is("19: what -1", x.gauge(0, 0, -1), BAD_VALUE);
        DUE.is("19: what 8", x.gauge(0, 2, 8), BAD_VALUE);
    }

    private static void gaugeOfDelta() {
        RosetteGantry x = new RosetteGantry();
        x.addRosette(100, true, 120, 240);
        x.setStrain(0, 5000, 5000, 5000);
        tells("19: gauge 0", gauge(x, 0, 0), new int[] {0, 5000, 12000, 12000, 0, 1000, 5000, 1198});
        tells("19: gauge 1", gauge(x, 0, 1), new int[] {0, 7165, 17196, 17196, 0, 1000, 7165, 1198});
        tells("19: gauge 2", gauge(x, 0, 2), new int[] {0, 2835, 6804, 6804, 0, 1000, 2835, 1198});
        x.setStrain(0, 100, -50, 0);
        DUE.is("19: (100 - 150) / 4", x.gauge(0, 1, 1), -12);
        x.setStrain(0, -5, -1, -5);
        DUE.is("19: -2 - 2", x.gauge(0, 1, 1), -4);
        DUE.is("19: -2 + 2", x.gauge(0, 2, 1), 0);
        x.setStrain(0, -3, 0, 2);
        DUE.is("19: towards 0", x.gauge(0, 1, 1), 0);
        x.setStrain(0, 0, 0, 3);
        DUE.is("19: 1299 / 1000", x.gauge(0, 1, 1), 1);
        DUE.is("19: 0 - 1", x.gauge(0, 2, 1), -1);
    }

    private static void gaugeRounding() {
        RosetteGantry x = new RosetteGantry();
        x.addRosette(100, false, 120, 181);
        x.setStrain(0, -3, 0, -2);
        DUE.is("19: (-3 - 2) / 2", x.gauge(0, 1, 1), -2);
        DUE.is("19: -3 * 181 / 100", x.gauge(0, 0, 2), -5);
        DUE.is("19: -5 * 100 / 181", x.gauge(0, 0, 6), -2);
        // Each part comes out by itself: 1 and 1 come out as 0 and 0, though 2 would as 1.
        x.setStrain(0, 1, 0, 0);
        x.setOffset(0, 0, 1);
        x.setLeads(0, 20000);
        DUE.is("19: each by itself", x.gauge(0, 0, 2), 0);
        x.setOffset(0, 0, -8);
        DUE.is("19: towards 0", x.gauge(0, 0, 2), -6);
        x.setSize(20);
        x.setShunt(0, true);
        DUE.is("19: the shunt by itself", x.gauge(0, 0, 2), 5112 - 6);
        DUE.is("19: the step", x.gauge(0, 0, 7), 5112);
        // reading * gain / 1000 is rounded ahead of * 100.
        x.request(2, 0, 5);
        x.next();
        DUE.is("19: the gain", x.gauge(0, 0, 5), 1166);
        x.setShunt(0, false);
        x.setOffset(0, 0, 7);
        DUE.is("19: the signal", x.gauge(0, 0, 2), 6);
        DUE.is("19: 6 * 1166 / 1000 * 100 / 181", x.gauge(0, 0, 6), 3);
        x.setOffset(0, 0, 1000);
        DUE.is("19: the signal", x.gauge(0, 0, 2), 857);
        DUE.is("19: 999 * 100 / 181", x.gauge(0, 0, 6), 551);
    }

    private static void gaugeOverloaded() {
        RosetteGantry x = new RosetteGantry();
        x.addRosette(0, false, 350, 240);
        x.setStrain(0, 5000, 5000, 5000);
        x.setSize(20);
        x.setShunt(0, true);
        x.setOffset(0, 0, 801);
        DUE.is("19: 30000", x.gauge(0, 0, 2), 30000);
        DUE.is("18: the others are beyond", x.rosette(0, 10), 1);
        DUE.is("19: the signal of 1", x.gauge(0, 1, 2), 35199);
        DUE.is("19: the reading of 1", x.gauge(0, 1, 3), 30000);
        DUE.is("19: the corrected strain of 1", x.gauge(0, 1, 6), 12500);
        DUE.is("19: the step of 1", x.gauge(0, 1, 7), 12000);
        x.setOffset(0, 0, 802);
        DUE.is("19: 30001", x.gauge(0, 0, 2), 30001);
        DUE.is("19: the reading", x.gauge(0, 0, 3), 30000);
        DUE.is("18: two are beyond", x.rosette(0, 10), 2);
        x.setStrain(0, -5000, -5000, -5000);
        x.setShunt(0, false);
        x.setOffset(0, 1, -9999);
        DUE.is("19: the signal below 0", x.gauge(0, 1, 2), -27999);
        x.setStrain(0, 5000, 5000, 0);
        x.setOffset(0, 1, 3000);
        x.setOffset(0, 0, 0);
        x.request(1, 0, 5);
        x.next();
        x.setStrain(0, -5000, -5000, 0);
        x.setOffset(0, 1, -3001);
        DUE.is("19: -30001", x.gauge(0, 1, 2), -30001);
        DUE.is("19: the reading", x.gauge(0, 1, 3), -30000);
        DUE.is("18: one is beyond", x.rosette(0, 10), 1);
        DUE.is("19: the step counts readings", x.gauge(0, 1, 7), 17198);
        x.setOffset(0, 1, -3000);
        DUE.is("19: -30000", x.gauge(0, 1, 2), -30000);
        DUE.is("18: none is beyond", x.rosette(0, 10), 0);
    }

    private static void principalOfRight() {
        RosetteGantry x = new RosetteGantry();
        DUE.is("20: none there", x.principal(0, 8), UNKNOWN);
        x.addRosette(100, false, 350, 200);
        tells("20: no strain", principal(x, 0), new int[] {0, 0, 0, 0, 0, 0, 0, 0});
        x.setStrain(0, 1000, -200, 600);
        tells("20: right", principal(x, 0), new int[] {1069, -269, 2, 669, 1000, -200, 600, 400});
        x.setStrain(0, -1000, -201, -600);
        // g is 2 * -900 + 1201; the greatest pull is 799 * 8660 + 599 * 5000.
        tells("20: right, below 0", principal(x, 0), new int[] {-105, -1095, 14, 495, -1000, -201, -599, -600});
        DUE.is("20: what -1", x.principal(0, -1), BAD_VALUE);
        DUE.is("20: what 8", x.principal(0, 8), BAD_VALUE);
        DUE.is("20: rosette 1", x.principal(1, 0), UNKNOWN);
        DUE.is("20: rosette -1", x.principal(-1, 0), UNKNOWN);
    }

    private static void principalOfDelta() {
        RosetteGantry x = new RosetteGantry();
        x.addRosette(100, true, 120, 240);
        x.setStrain(0, 5000, 5000, 5000);
        tells("20: delta", principal(x, 0), new int[] {7499, 2501, 6, 2499, 5000, 5000, 4999, 5000});
        x.addRosette(900, true, 350, 210);
        x.setStrain(1, -5000, 4000, 3000);
        // The gauges are under -5000, 3049 and 451, the corrected strains are -5000, 3048 and 450;
        // the greatest pull is 8998 * 9659 + 2999 * 2588.
        tells("20: delta", principal(x, 1), new int[] {4232, -5234, 11, 4733, -5000, 3998, 2999, -501});
    }

    private static void principalDirections() {
        RosetteGantry x = new RosetteGantry();
        x.addRosette(100, false, 350, 200);
        for (int k = 0; k < 24; k++) {
            x.setStrain(0, cosine(k) / 10, -cosine(k) / 10, sine(k) / 5);
            DUE.is("20: the direction " + k, x.principal(0, 2), k);
        }
        // 5176 * 10000 is 5176 * 9659 + 682 * 2588: two directions have the greatest pull.
        x.setStrain(0, 2588, -2588, 682);
        DUE.is("21: pulls alike", x.pull(0, 0), x.pull(0, 1));
        DUE.is("20: 0 of 0 and 1", x.principal(0, 2), 0);
        x.setStrain(0, 2588, -2588, -682);
        DUE.is("20: 0 of 0 and 23", x.principal(0, 2), 0);
        x.setStrain(0, -2588, 2588, 682);
        DUE.is("20: 11 of 11 and 12", x.principal(0, 2), 11);
        x.setStrain(0, -2588, 2588, -682);
        DUE.is("20: 12 of 12 and 13", x.principal(0, 2), 12);
    }

    private static int cosine(int k) {
        if (k > 12) {
            return cosine(24 - k);
        }
        return k > 6 ? -COSINES[12 - k] : COSINES[k];
    }

    private static int sine(int k) {
        return k < 6 ? cosine(6 - k) : cosine(k - 6);
    }

    private static void pull() {
        RosetteGantry x = new RosetteGantry();
        DUE.is("21: none there", x.pull(0, 24), UNKNOWN);
        x.addRosette(100, false, 350, 200);
        x.setStrain(0, 1000, -200, 600);
        int[] due = {600, 657, 669, 636, 559, 445, 300, 134};
        for (int k = 0; k < due.length; k++) {
            DUE.is("21: pull(0, " + k + ")", x.pull(0, k), due[k]);
            DUE.is("21: pull(0, " + (k + 12) + ")", x.pull(0, k + 12), -due[k]);
        }
        x.setStrain(0, 5000, -5000, 5000);
        for (int k = 0; k < 24; k++) {
            long want = (10000L * cosine(k) + 5000L * sine(k)) / 20000;
            DUE.is("21: pull(0, " + k + ")", x.pull(0, k), want);
        }
        pullOfGreatStrains();
        DUE.is("21: -1", x.pull(0, -1), BAD_VALUE);
        DUE.is("21: 24", x.pull(0, 24), BAD_VALUE);
        DUE.is("21: rosette 1", x.pull(1, 0), UNKNOWN);
        DUE.is("21: rosette -1", x.pull(-1, -1), UNKNOWN);
    }

    /** With x - y and g beyond 20000, each number of the table of directions counts to the last digit. */
    private static void pullOfGreatStrains() {
        RosetteGantry x = new RosetteGantry();
        x.addRosette(100, false, 350, 180);
        x.setStrain(0, 5000, -5000, 5000);
        x.setOffset(0, 0, 9999);
        x.setOffset(0, 1, 9999);
        x.setOffset(0, 2, -9999);
        DUE.is("20: x", x.principal(0, 4), 10555);
        DUE.is("20: y", x.principal(0, 5), -10555);
        DUE.is("20: g", x.principal(0, 6), 16110);
        for (int k = 0; k < 24; k++) {
            DUE.is("21: pull(0, " + k + ")", x.pull(0, k), (21110L * cosine(k) + 16110L * sine(k)) / 20000);
        }
        // The direction 2 has 21110 * 8660 + 16110 * 5000, and the direction 3 has 37220 * 7071.
        DUE.is("20: the direction", x.principal(0, 2), 2);
        DUE.is("20: the radius", x.principal(0, 3), 13168);
        x.setOffset(0, 0, -9999);
        x.setStrain(0, -5000, -5000, 5000);
        DUE.is("20: g", x.principal(0, 6), 27220);
        for (int k = 0; k < 24; k++) {
            DUE.is("21: pull(0, " + k + ")", x.pull(0, k), 27220L * sine(k) / 20000);
        }
        x.addRosette(200, true, 350, 180);
        x.setOffset(1, 1, 9999);
        x.setStrain(1, 0, 0, 5000);
        DUE.is("20: b", x.gauge(1, 1, 6), 7720);
        DUE.is("20: c", x.gauge(1, 2, 6), -2165);
        DUE.is("20: g of delta", x.principal(1, 6), 9885 * 11547 / 10000);
    }

    private static void job() {
        RosetteGantry x = new RosetteGantry();
        DUE.is("22: none waits", x.job(0, 0), NONE);
        DUE.is("22: a wrong what", x.job(0, 5), BAD_VALUE);
        DUE.is("22: a wrong job", x.job(-1, 0), BAD_VALUE);
        x.addRosette(500, false, 350, 200);
        x.addRosette(200, false, 350, 200);
        x.addRosette(900, true, 120, 200);
        x.request(0, 2, 5);
        x.request(1, 0, 5);
        x.request(2, 1, 5);
        x.request(0, 0, 9);
        x.request(0, 2, 5);
        int[][] due = {{3, 0, 0, 9, 500}, {1, 1, 0, 5, 500}, {2, 2, 1, 5, 800}, {0, 0, 2, 5, 1500}, {4, 0, 2, 5, 1500}};
        for (int i = 0; i < due.length; i++) {
            for (int what = 0; what < 5; what++) {
                DUE.is("22: job(" + i + ", " + what + ")", x.job(i, what), due[i][what]);
            }
        }
        DUE.is("22: not so many", x.job(5, 0), NONE);
        DUE.is("22: by far", x.job(Integer.MAX_VALUE, 4), NONE);
        DUE.is("22: what -1", x.job(0, -1), BAD_VALUE);
        DUE.is("22: what 5", x.job(0, 5), BAD_VALUE);
        DUE.is("22: what 5 of none", x.job(9, 5), BAD_VALUE);
        DUE.is("22: telling moves nothing", x.count(5), 0);
        x.next();
        DUE.is("22: from where it is now on", x.job(1, 4), 300);
        DUE.is("22: and on", x.job(3, 4), 1000);
        DUE.is("22: not so many", x.job(4, 4), NONE);
    }

    private static void record() {
        RosetteGantry x = new RosetteGantry();
        DUE.is("23: none is there", x.record(0, 3), NONE);
        DUE.is("23: a wrong what", x.record(0, 4), BAD_VALUE);
        x.addRosette(500, false, 350, 200);
        x.addRosette(200, false, 350, 200);
        x.setShunt(1, true);
        x.setOffset(0, 2, 30);
        x.request(1, 0, 5);
        x.next();
        x.request(1, 1, 5);
        x.next();
        int[][] due = {{1, 1, NONE, 4}, {1, 0, 1, 0}};
        for (int i = 0; i < due.length; i++) {
            for (int what = 0; what < 4; what++) {
                DUE.is("23: record(" + i + ", " + what + ")", x.record(i, what), due[i][what]);
            }
        }
        DUE.is("23: not so many", x.record(2, 0), NONE);
        DUE.is("23: record -1", x.record(-1, 0), BAD_VALUE);
        DUE.is("23: what -1", x.record(0, -1), BAD_VALUE);
        DUE.is("23: what 4", x.record(9, 4), BAD_VALUE);
        for (int i = 0; i < 11; i++) {
            x.request(2, 0, 5);
            x.next();
            DUE.is("23: kept", x.count(8), Math.min(i + 3, 12));
        }
        DUE.is("23: the oldest one is dropped", x.record(11, 3), 4);
        DUE.is("23: there are 12", x.record(12, 3), NONE);
        DUE.is("23: the latest one", x.record(0, 0), 2);
        DUE.is("23: done", x.count(3), 13);
    }

    private static void neighbour() {
        RosetteGantry x = new RosetteGantry();
        DUE.is("24: none there", x.neighbour(0, true), NONE);
        DUE.is("24: -1", x.neighbour(-1, true), BAD_VALUE);
        DUE.is("24: 1001", x.neighbour(1001, false), BAD_VALUE);
        x.addRosette(1000, false, 350, 200);
        DUE.is("24: from end to end", x.neighbour(0, true), 0);
        x.addRosette(0, false, 350, 200);
        x.addRosette(300, false, 350, 200);
        x.addRosette(301, false, 350, 200);
        DUE.is("24: above 0", x.neighbour(0, true), 2);
        DUE.is("24: below 0", x.neighbour(0, false), NONE);
        DUE.is("24: above 1000", x.neighbour(1000, true), NONE);
        DUE.is("24: below 1000", x.neighbour(1000, false), 3);
        DUE.is("24: above 300", x.neighbour(300, true), 3);
        DUE.is("24: below 300", x.neighbour(300, false), 1);
        DUE.is("24: above 301", x.neighbour(301, true), 0);
        DUE.is("24: below 301", x.neighbour(301, false), 2);
        DUE.is("24: above 1", x.neighbour(1, true), 2);
        DUE.is("24: below 1", x.neighbour(1, false), 1);
        DUE.is("24: the far one", x.neighbour(999, true), 0);
    }

    private static void count() {
        RosetteGantry x = new RosetteGantry();
        x.addRosette(500, false, 350, 200);
        x.addRosette(200, false, 350, 200);
        x.addRosette(200, false, 350, 200);
        x.setShunt(0, true);
        x.setSize(90);
        x.request(1, 0, 9);
        x.request(0, 1, 5);
        x.request(0, 1, 5);
        x.next();
        x.next();
        x.type('x');
        x.type('x');
        x.type('x');
        int[] due = {2, 1, 3, 2, 1, 200, 800, 90, 2, 4, 5, 3};
        for (int what = 0; what < due.length; what++) {
            DUE.is("25: count(" + what + ")", x.count(what), due[what]);
        }
        DUE.is("25: -1", x.count(-1), BAD_VALUE);
        DUE.is("25: 12", x.count(12), BAD_VALUE);
    }
}
