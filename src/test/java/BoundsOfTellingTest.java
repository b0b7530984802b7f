/** Each sentence of "PRINCIPAL STRAINS" and of the promises 18 to 25 that names a boundary case, by itself. */
public final class BoundsOfTellingTest {
    private static final int UNKNOWN = -1000001;
    private static final int BAD_VALUE = -1000002;
    private static final int NONE = -1000004;
    private static final int LEAST = Integer.MIN_VALUE;
    private static final int MOST = Integer.MAX_VALUE;
    private static final int[] FIRST_COSINES = {10000, 9659, 8660, 7071, 5000, 2588, 0};
    private static final Due DUE = new Due("BoundsOfTellingTest");
    private static final Twins TWINS = new Twins(DUE);

    public static void main(String[] args) {
        tableGoesRound();
        lowestOfSeveralDirections();
        noStrainAtAll();
        principalOfOddNumbers();
        greatestStrains();
        pullsBelow0();
        toldAsItStands();
        tellingChangesNothing();
        rosetteBounds();
        rosetteEdges();
        gaugeBounds();
        gaugeStepRefusedOrNot();
        principalBounds();
        pullBounds();
        jobBounds();
        jobWay();
        jobGoesOnAsWorkOffDoes();
        recordBounds();
        recordOfARefusedOne();
        neighbourBounds();
        neighbourBeyondThePlace();
        countBounds();
        countEdges();
        DUE.end();
    }

    private static final Twins.Run TWO = x -> {
        x.addRosette(500, false, 350, 200);
        x.addRosette(20, true, 120, 240);
    };

    /** C(k) as the document tells it. */
    private static int c(int k) {
        if (k > 12) {
            return c(24 - k);
        }
        return k > 6 ? -c(12 - k) : FIRST_COSINES[k];
    }

    private static int s(int k) {
        return k >= 6 ? c(k - 6) : c(6 - k);
    }

    private static void next(RosetteGantry x, int kind) {
        x.request(kind, 0, 5);
        x.next();
    }

    /** Zeros of -1, -1 and 1, so that corrected strains can be 10000, 10000 and -10000: an offset is not enough. */
    private static RosetteGantry farApart() {
        RosetteGantry x = new RosetteGantry();
        x.addRosette(0, false, 350, 200);
        x.setOffset(0, 0, -1);
        x.setOffset(0, 1, -1);
        x.setOffset(0, 2, 1);
        next(x, 1);
        return x;
    }

    /** With x - y of 20000 and g of 0 the pull / 20000 is C(k); with the two the other way, S(k). */
    private static void tableGoesRound() {
        RosetteGantry x = farApart();
        x.setStrain(0, 5000, -5000, 0);
        x.setOffset(0, 0, 9999);
        x.setOffset(0, 2, -9999);
        DUE.is("20: x", x.principal(0, 4), 10000);
        DUE.is("20: y", x.principal(0, 5), -10000);
        DUE.is("20: g", x.principal(0, 6), 0);
        for (int k = 0; k < 24; k++) {
            DUE.is("21: C(" + k + ")", x.pull(0, k), c(k));
        }
        DUE.is("20: the direction", x.principal(0, 2), 0);
        DUE.is("20: the radius", x.principal(0, 3), 10000);
        RosetteGantry y = farApart();
        y.setStrain(0, 5000, 5000, 0);
        // The signals are 10000 - 9997 + 1, 10000 + 9999 + 1 and 10000 - 9995 - 1.
        y.setOffset(0, 0, -9997);
        y.setOffset(0, 1, 9999);
        y.setOffset(0, 2, -9995);
        DUE.is("20: a", y.gauge(0, 0, 6), 2);
        DUE.is("20: c", y.gauge(0, 2, 6), 2);
        DUE.is("20: x - y", y.principal(0, 4) - y.principal(0, 5), 0);
        DUE.is("20: g is 2 * 10000 - 2 - 2", y.principal(0, 6), 19996);
        for (int k = 0; k < 24; k++) {
            DUE.is("21: S(" + k + ")", y.pull(0, k), 19996L * s(k) / 20000);
        }
        DUE.is("20: the direction", y.principal(0, 2), 6);
        DUE.is("20: the radius", y.principal(0, 3), 9998);
    }

    /** Sets the corrected strains so that x - y and g are as wanted. */
    private static RosetteGantry apart(int x, int y, int g) {
        RosetteGantry gantry = new RosetteGantry();
        gantry.addRosette(0, false, 350, 200);
        int most = Math.max(-5000, Math.min(5000, g));
        gantry.setStrain(0, x, y, most);
        gantry.setOffset(0, 1, g - most);
        DUE.is("20: x", gantry.principal(0, 4), x);
        DUE.is("20: y", gantry.principal(0, 5), y);
        DUE.is("20: g", gantry.principal(0, 6), g);
        return gantry;
    }

    private static void ofTwo(int x, int y, int g, int lower, int higher) {
        RosetteGantry gantry = apart(x, y, g);
        DUE.is("21: two pulls are alike",
            (x - y) * (long) c(lower) + g * (long) s(lower), (x - y) * (long) c(higher) + g * (long) s(higher));
        DUE.is("20: the lowest of " + lower + " and " + higher, gantry.principal(0, 2), lower);
        DUE.is("20: the radius", gantry.principal(0, 3), gantry.pull(0, higher));
    }

    private static void lowestOfSeveralDirections() {
        // 5176 * 10000 is 5176 * 9659 + 682 * 2588: between a direction along an axis and the next one.
        ofTwo(2588, -2588, 682, 0, 1);
        ofTwo(2588, -2588, -682, 0, 23);
        ofTwo(-2588, 2588, 682, 11, 12);
        ofTwo(-2588, 2588, -682, 12, 13);
        ofTwo(341, -341, 5176, 5, 6);
        ofTwo(-341, 341, 5176, 6, 7);
        ofTwo(-341, 341, -5176, 17, 18);
        ofTwo(341, -341, -5176, 18, 19);
        // By x - y alike to g, the directions 3, 9, 15 and 21 are in the middle.
        int[][] middles = {{1, 1}, {-1, 1}, {-1, -1}, {1, -1}};
        for (int i = 0; i < middles.length; i++) {
            RosetteGantry x = apart(middles[i][0] * 500, -middles[i][0] * 500, middles[i][1] * 1000);
            DUE.is("20: the middle", x.principal(0, 2), 3 + 6 * i);
            DUE.is("20: as far to both sides", x.pull(0, 2 + 6 * i), x.pull(0, 4 + 6 * i));
        }
    }

    private static void noStrainAtAll() {
        RosetteGantry x = Twins.made(TWO);
        for (int r = 0; r < 2; r++) {
            for (int what = 0; what < 8; what++) {
                DUE.is("20: no strain", x.principal(r, what), 0);
            }
            for (int k = 0; k < 24; k++) {
                DUE.is("21: no strain", x.pull(r, k), 0);
            }
        }
        x.setStrain(0, 700, 700, 0);
        int[] due = {700, 700, 0, 0, 700, 700, 0, 700};
        for (int what = 0; what < 8; what++) {
            DUE.is("20: alike to all sides", x.principal(0, what), due[what]);
        }
        x.setStrain(0, -700, -700, 0);
        DUE.is("20: the lowest of 24", x.principal(0, 2), 0);
        DUE.is("20: the greater one", x.principal(0, 0), -700);
        DUE.is("20: the lesser one", x.principal(0, 1), -700);
    }

    private static void principalOfOddNumbers() {
        RosetteGantry x = Twins.made(TWO);
        x.setStrain(0, -3, 0, -3);
        // The corrected strains are -3, -3 and 0: g is -6 + 3; the mean -3 / 2; the pull -3 * C + -3 * S.
        int[] due = {1, -3, 15, 2, -3, 0, -3, -1};
        for (int what = 0; what < 8; what++) {
            DUE.is("20: what " + what, x.principal(0, what), due[what]);
        }
        x.setStrain(0, 1, -2, 0);
        // (1 - 2) / 2 is 0: g is 0 - 1 + 2. The pull of the direction 1 is 3 * 9659 + 2588, of 2 3 * 8660 + 5000.
        int[] small = {1, -1, 1, 1, 1, -2, 1, 0};
        for (int what = 0; what < 8; what++) {
            DUE.is("20: what " + what, x.principal(0, what), small[what]);
        }
    }

    private static void greatestStrains() {
        RosetteGantry x = new RosetteGantry();
        x.addRosette(0, false, 350, 180);
        x.addRosette(1, true, 120, 180);
        int[][] offsets = {{9999, 9999, -9999}, {-9999, 9999, -9999}, {-9999, -9999, 9999}, {9999, -9999, 9999}};
        int[][] strains = {{5000, -5000, 5000}, {-5000, -5000, 5000}, {-5000, 5000, -5000}, {5000, 5000, -5000}};
        for (int i = 0; i < offsets.length; i++) {
            for (int gauge = 0; gauge < 3; gauge++) {
                x.setOffset(0, gauge, offsets[i][gauge]);
                x.setOffset(1, gauge, offsets[i][gauge]);
            }
            for (int r = 0; r < 2; r++) {
                x.setStrain(r, strains[i][0], strains[i][1], strains[i][2]);
                long a = x.gauge(r, 0, 6);
                long b = x.gauge(r, 1, 6);
                long c = x.gauge(r, 2, 6);
                long py = r == 0 ? c : (2 * b + 2 * c - a) / 3;
                long g = r == 0 ? 2 * b - a - c : (b - c) * 11547 / 10000;
                DUE.is("20: x", x.principal(r, 4), a);
                DUE.is("20: y", x.principal(r, 5), py);
                DUE.is("20: g", x.principal(r, 6), g);
                DUE.is("20: the mean", x.principal(r, 7), (a + py) / 2);
                radiusOf(x, r, a - py, g);
            }
        }
    }

    private static void radiusOf(RosetteGantry x, int r, long difference, long g) {
        long greatest = 0;
        for (int k = 0; k < 24; k++) {
            long pull = difference * c(k) + g * s(k);
            greatest = Math.max(greatest, pull);
            if (k % 5 == 0) {
                DUE.is("21: the pull of " + k, x.pull(r, k), pull / 20000);
            }
        }
        DUE.is("20: the radius", x.principal(r, 3), greatest / 20000);
        DUE.is("20: the greater one", x.principal(r, 0), x.principal(r, 7) + greatest / 20000);
        DUE.is("20: the lesser one", x.principal(r, 1), x.principal(r, 7) - greatest / 20000);
    }

    private static void pullsBelow0() {
        RosetteGantry x = Twins.made(TWO);
        x.setStrain(0, 3, 0, 0);
        // The corrected strains are 3, 1 and 0: x - y is 3 and g is -1; 3 * 10000 / 20000 is 1.
        DUE.is("21: towards 0", x.pull(0, 0), 1);
        DUE.is("21: towards 0 below 0", x.pull(0, 12), -1);
        x.setStrain(0, 1, 0, 0);
        for (int k = 0; k < 24; k++) {
            DUE.is("21: less than 1", x.pull(0, k), 0);
        }
    }

    /** What is told is of the rosette that is asked for, as it stands then, whatever was told or set before. */
    private static void toldAsItStands() {
        RosetteGantry x = new RosetteGantry();
        x.addRosette(0, false, 350, 200);
        x.addRosette(1, false, 350, 200);
        x.setStrain(0, 1000, -1000, 0);
        x.setStrain(1, -600, 600, 0);
        for (int i = 0; i < 2; i++) {
            DUE.is("21: of 0", x.pull(0, 0), 1000);
            DUE.is("21: of 1", x.pull(1, 0), -600);
            DUE.is("20: of 0", x.principal(0, 0), 1000);
            DUE.is("20: of 1", x.principal(1, 0), 600);
            DUE.is("19: of 0", x.gauge(0, 0, 2), 2000);
            DUE.is("19: of 1", x.gauge(1, 0, 2), -1200);
        }
        x.setOffset(0, 0, 400);
        DUE.is("21: with the offset", x.pull(0, 0), 1100);
        x.setLeads(0, 20000);
        DUE.is("21: with the leads", x.pull(0, 0), (1134 + 945) / 2);
        x.setLeads(0, 0);
        x.setOffset(0, 0, 0);
        x.setShunt(0, true);
        DUE.is("18: none is overloaded", x.rosette(0, 10), 0);
        x.setSize(20);
        x.setStrain(1, 5000, 5000, 0);
        DUE.is("19: with the size", x.gauge(0, 2, 2), 15199);
        x.undo();
        DUE.is("21: of 1, as before", x.pull(1, 0), -600);
        x.undo();
        DUE.is("19: with the size before", x.gauge(0, 2, 2), 1487);
    }

    private static void tellingChangesNothing() {
        Twins.Run rich = x -> {
            TWO.on(x);
            x.setStrain(1, 100, -200, 300);
            x.setLeads(0, 10000);
            x.setShunt(0, true);
            x.request(1, 0, 5);
            x.next();
            x.keep();
            x.request(2, 0, 5);
            x.request(0, 1, 6);
            Due.typeAll(x, "b0,r1!7");
        };
        for (int number = -2; number <= 13; number++) {
            int n = number;
            TWINS.alike("18: telling " + n, rich, x -> {
                rich.on(x);
                for (int what = -1; what <= 12; what++) {
                    x.rosette(n, what);
                    x.gauge(n, what, 7);
                    x.gauge(1, n, what);
                    x.principal(n, what);
                    x.pull(n, what);
                    x.job(n, what);
                    x.record(n, what);
                    x.count(n);
                    x.neighbour(n * 77, what % 2 == 0);
                }
            });
        }
    }

    private static void rosetteBounds() {
        int[] rosettes = {LEAST, -1, 2, 7, 8, MOST};
        for (int r : rosettes) {
            TWINS.changesNothing("18: rosette " + r, TWO, x -> x.rosette(r, 0), UNKNOWN);
            TWINS.changesNothing("18: UNKNOWN ahead of BAD_VALUE", TWO, x -> x.rosette(r, 12), UNKNOWN);
        }
        int[] whats = {LEAST, -1, 12, 13, MOST};
        for (int what : whats) {
            TWINS.changesNothing("18: what " + what, TWO, x -> x.rosette(1, what), BAD_VALUE);
        }
        RosetteGantry x = Twins.made(TWO);
        int[] due = {20, 1, 120, 240, 0, 0, 0, 0, 0, 1198, 0, 0};
        for (int what = 0; what < due.length; what++) {
            DUE.is("18: what " + what, x.rosette(1, what), due[what]);
        }
    }

    private static void rosetteEdges() {
        RosetteGantry x = Twins.made(TWO);
        for (int i = 0; i < 20; i++) {
            x.request(0, i == 19 ? 0 : 1, 5);
        }
        DUE.is("18: one waits for it", x.rosette(0, 11), 1);
        DUE.is("18: 19 wait for it", x.rosette(1, 11), 19);
        x.workOff();
        DUE.is("18: none waits for it", x.rosette(1, 11), 0);
        x.setStrain(0, 5000, 5000, 0);
        x.setSize(20);
        x.setShunt(0, true);
        for (int gauge = 0; gauge < 3; gauge++) {
            x.setOffset(0, gauge, 2801);
            DUE.is("18: at 30000", x.rosette(0, 10), gauge);
            x.setOffset(0, gauge, 2802);
            DUE.is("18: beyond 30000", x.rosette(0, 10), gauge + 1);
        }
        DUE.is("18: not of the other one", x.rosette(1, 10), 0);
        x.setLeads(0, 20000);
        DUE.is("18: the shunt value is told as it goes in", x.rosette(0, 9), 17199);
        x.setShunt(0, false);
        DUE.is("18: and with the shunt off, too", x.rosette(0, 9), 17199);
        DUE.is("18: none is overloaded", x.rosette(0, 10), 0);
    }

    private static void gaugeBounds() {
        int[] rosettes = {LEAST, -1, 2, 7, 8, MOST};
        for (int r : rosettes) {
            TWINS.changesNothing("19: rosette " + r, TWO, x -> x.gauge(r, 0, 0), UNKNOWN);
            TWINS.changesNothing("19: UNKNOWN ahead of BAD_VALUE", TWO, x -> x.gauge(r, 0, 8), UNKNOWN);
        }
        int[] gauges = {LEAST, -1, 3, MOST};
        for (int gauge : gauges) {
            TWINS.changesNothing("19: gauge " + gauge, TWO, x -> x.gauge(0, gauge, 0), UNKNOWN);
            TWINS.changesNothing("19: UNKNOWN ahead of BAD_VALUE", TWO, x -> x.gauge(1, gauge, -1), UNKNOWN);
        }
        int[] whats = {LEAST, -1, 8, 9, MOST};
        for (int what : whats) {
            TWINS.changesNothing("19: what " + what, TWO, x -> x.gauge(1, 2, what), BAD_VALUE);
        }
        RosetteGantry x = Twins.made(TWO);
        x.setStrain(1, 40, 80, 100);
        x.setOffset(1, 0, 10);
        x.setOffset(1, 2, 30);
        // m is (40 + 240) / 4 and s is 43300 / 1000: 40, 113 and 27 are weighed with 240 / 100.
        int[][] due = {
            {10, 40, 106, 106, 0, 1000, 44, 1198}, {0, 113, 271, 271, 0, 1000, 112, 1198},
            {30, 27, 94, 94, 0, 1000, 39, 1198}};
        for (int gauge = 0; gauge < 3; gauge++) {
            for (int what = 0; what < 8; what++) {
                DUE.is("19: gauge " + gauge + ", what " + what, x.gauge(1, gauge, what), due[gauge][what]);
            }
        }
    }

    private static void gaugeStepRefusedOrNot() {
        RosetteGantry x = Twins.made(TWO);
        x.setStrain(0, 5000, 5000, 0);
        x.setSize(20);
        x.setOffset(0, 0, 2801);
        DUE.is("19: up to 30000", x.gauge(0, 0, 7), 17199);
        x.setOffset(0, 0, 2802);
        DUE.is("19: the reading with the shunt on is limited", x.gauge(0, 0, 7), 17198);
        x.setOffset(0, 0, 9999);
        DUE.is("19: further on", x.gauge(0, 0, 7), 10001);
        x.setShunt(0, true);
        DUE.is("19: the same with the shunt on", x.gauge(0, 0, 7), 10001);
        next(x, 2);
        DUE.is("19: though the check is refused", x.record(0, 3), 2);
        DUE.is("19: it is told", x.gauge(0, 0, 7), 10001);
        DUE.is("19: of this gauge", x.gauge(0, 1, 7), 17199);
    }

    private static void principalBounds() {
        int[] rosettes = {LEAST, -1, 2, 7, 8, MOST};
        for (int r : rosettes) {
            TWINS.changesNothing("20: rosette " + r, TWO, x -> x.principal(r, 0), UNKNOWN);
            TWINS.changesNothing("20: UNKNOWN ahead of BAD_VALUE", TWO, x -> x.principal(r, 8), UNKNOWN);
        }
        int[] whats = {LEAST, -1, 8, 9, MOST};
        for (int what : whats) {
            TWINS.changesNothing("20: what " + what, TWO, x -> x.principal(1, what), BAD_VALUE);
        }
    }

    private static void pullBounds() {
        int[] rosettes = {LEAST, -1, 2, 7, 8, MOST};
        for (int r : rosettes) {
            TWINS.changesNothing("21: rosette " + r, TWO, x -> x.pull(r, 0), UNKNOWN);
            TWINS.changesNothing("21: UNKNOWN ahead of BAD_VALUE", TWO, x -> x.pull(r, 24), UNKNOWN);
        }
        int[] directions = {LEAST, -24, -1, 24, 25, 48, MOST};
        for (int direction : directions) {
            TWINS.changesNothing("21: direction " + direction, TWO, x -> x.pull(1, direction), BAD_VALUE);
        }
        RosetteGantry x = Twins.made(TWO);
        x.setStrain(0, 5000, -5000, 0);
        DUE.is("21: the direction 0", x.pull(0, 0), 5000);
        DUE.is("21: the direction 23", x.pull(0, 23), 4829);
        DUE.is("21: the direction 12", x.pull(0, 12), -5000);
    }

    private static void jobBounds() {
        Twins.Run three = x -> {
            TWO.on(x);
            x.request(1, 0, 3);
            x.request(2, 1, 4);
            x.request(0, 1, 5);
        };
        Twins.Run[] setUps = {x -> { }, TWO, three};
        int[] waiting = {0, 0, 3};
        for (int i = 0; i < setUps.length; i++) {
            int[] jobs = {waiting[i], waiting[i] + 1, 19, 20, 21, MOST};
            for (int job : jobs) {
                TWINS.changesNothing("22: job " + job, setUps[i], x -> x.job(job, 0), NONE);
                TWINS.changesNothing("22: its way", setUps[i], x -> x.job(job, 4), NONE);
                TWINS.changesNothing("22: BAD_VALUE ahead of NONE", setUps[i], x -> x.job(job, 5), BAD_VALUE);
                TWINS.changesNothing("22: BAD_VALUE ahead of NONE", setUps[i], x -> x.job(job, -1), BAD_VALUE);
            }
            TWINS.changesNothing("22: job -1", setUps[i], x -> x.job(-1, 0), BAD_VALUE);
            TWINS.changesNothing("22: the least job", setUps[i], x -> x.job(LEAST, 4), BAD_VALUE);
        }
        int[] whats = {LEAST, -1, 5, 6, MOST};
        for (int what : whats) {
            TWINS.changesNothing("22: what " + what, three, x -> x.job(0, what), BAD_VALUE);
        }
        RosetteGantry x = Twins.made(three);
        int[][] due = {{2, 0, 1, 5, 20}, {1, 2, 1, 4, 20}, {0, 1, 0, 3, 500}};
        for (int job = 0; job < 3; job++) {
            for (int what = 0; what < 5; what++) {
                DUE.is("22: job(" + job + ", " + what + ")", x.job(job, what), due[job][what]);
            }
        }
    }

    private static void jobWay() {
        RosetteGantry x = new RosetteGantry();
        x.addRosette(1000, false, 350, 200);
        x.addRosette(0, false, 350, 200);
        for (int i = 0; i < 20; i++) {
            x.request(0, i % 2, 9 - i / 2);
        }
        // By urgencies of two jobs each: 0 and 1000, then 1000 and 0, and so on: 1000 for each two jobs.
        for (int i = 0; i < 20; i++) {
            DUE.is("22: the whole way up to it", x.job(i, 4), (i + 1) / 2 * 1000);
        }
        x.next();
        DUE.is("22: it begins where the gantry is now", x.job(0, 4), 1000);
        DUE.is("22: up to the last one", x.job(18, 4), 10000);
        x.next();
        DUE.is("22: the way that was counts no more", x.job(0, 4), 0);
        DUE.is("22: it is told elsewhere", x.count(6), 1000);
    }

    private static void jobGoesOnAsWorkOffDoes() {
        RosetteGantry x = new RosetteGantry();
        int[] places = {500, 480, 530, 440, 590, 350, 700, 1000};
        for (int place : places) {
            x.addRosette(place, false, 120, 200);
        }
        for (int i = 0; i < 20; i++) {
            x.request(0, i * 3 % 8, i % 3 == 0 ? 6 : 5);
        }
        int[] order = new int[20];
        for (int i = 0; i < 20; i++) {
            order[i] = x.job(i, 0);
        }
        int way = x.job(19, 4);
        x.keep();
        for (int i = 0; i < 20; i++) {
            DUE.is("22: as next does", x.next(), order[i]);
        }
        DUE.is("22: the way", x.count(6), way);
        x.restore();
        int[] last = new int[12];
        for (int i = 0; i < 12; i++) {
            last[i] = x.job(19 - i, 2);
        }
        x.workOff();
        for (int i = 0; i < 12; i++) {
            DUE.is("22: as workOff does", x.record(i, 1), last[i]);
        }
        DUE.is("22: the way", x.count(6), way);
    }

    private static void recordBounds() {
        Twins.Run done = x -> {
            TWO.on(x);
            for (int i = 0; i < 3; i++) {
                x.request(i, i % 2, 5);
                x.next();
            }
        };
        Twins.Run full = x -> {
            done.on(x);
            for (int i = 0; i < 10; i++) {
                next(x, 0);
            }
        };
        Twins.Run[] setUps = {x -> { }, TWO, done, full};
        int[] kept = {0, 0, 3, 12};
        for (int i = 0; i < setUps.length; i++) {
            int[] records = {kept[i], kept[i] + 1, 12, 13, MOST};
            for (int record : records) {
                TWINS.changesNothing("23: record " + record, setUps[i], x -> x.record(record, 0), NONE);
                TWINS.changesNothing("23: BAD_VALUE ahead of NONE", setUps[i], x -> x.record(record, 4), BAD_VALUE);
                TWINS.changesNothing("23: BAD_VALUE ahead of NONE", setUps[i], x -> x.record(record, -1), BAD_VALUE);
            }
            TWINS.changesNothing("23: record -1", setUps[i], x -> x.record(-1, 0), BAD_VALUE);
            TWINS.changesNothing("23: the least record", setUps[i], x -> x.record(LEAST, 3), BAD_VALUE);
        }
        int[] whats = {LEAST, -1, 4, 5, MOST};
        for (int what : whats) {
            TWINS.changesNothing("23: what " + what, done, x -> x.record(0, what), BAD_VALUE);
        }
        RosetteGantry x = Twins.made(done);
        for (int i = 0; i < 3; i++) {
            DUE.is("23: the latest first", x.record(i, 0), 2 - i);
            DUE.is("23: its rosette", x.record(i, 1), i == 1 ? 1 : 0);
        }
        RosetteGantry y = Twins.made(full);
        DUE.is("23: the last of 12", y.record(11, 0), 1);
        DUE.is("23: the one before is dropped", y.record(12, 0), NONE);
    }

    private static void recordOfARefusedOne() {
        RosetteGantry x = Twins.made(TWO);
        x.setShunt(0, true);
        next(x, 1);
        DUE.is("23: NONE as its result", x.record(0, 2), NONE);
        DUE.is("23: its reason", x.record(0, 3), 4);
        x.setShunt(0, false);
        next(x, 1);
        DUE.is("23: 0 as its result", x.record(0, 2), 0);
        DUE.is("23: no reason", x.record(0, 3), 0);
        DUE.is("23: the refused one", x.record(1, 2), NONE);
        x.setStrain(0, -5000, -5000, 0);
        next(x, 0);
        DUE.is("23: a result below 0", x.record(0, 2), -5000);
    }

    private static void neighbourBounds() {
        int[] places = {LEAST, -1, 1001, MOST};
        for (int place : places) {
            TWINS.changesNothing("24: place " + place, TWO, x -> x.neighbour(place, true), BAD_VALUE);
            TWINS.changesNothing("24: place " + place, TWO, x -> x.neighbour(place, false), BAD_VALUE);
            TWINS.changesNothing("24: BAD_VALUE ahead of NONE", x -> { }, x -> x.neighbour(place, true), BAD_VALUE);
        }
        TWINS.changesNothing("24: no rosette", x -> { }, x -> x.neighbour(0, true), NONE);
        TWINS.changesNothing("24: no rosette", x -> { }, x -> x.neighbour(1000, false), NONE);
        TWINS.changesNothing("24: none above", TWO, x -> x.neighbour(500, true), NONE);
        TWINS.changesNothing("24: none below", TWO, x -> x.neighbour(20, false), NONE);
        RosetteGantry x = new RosetteGantry();
        x.addRosette(0, false, 350, 200);
        x.addRosette(1000, false, 350, 200);
        DUE.is("24: from 0 up", x.neighbour(0, true), 1);
        DUE.is("24: from 1000 down", x.neighbour(1000, false), 0);
        DUE.is("24: from 1 down", x.neighbour(1, false), 0);
        DUE.is("24: from 999 up", x.neighbour(999, true), 1);
        DUE.is("24: from 0 down", x.neighbour(0, false), NONE);
        DUE.is("24: from 1000 up", x.neighbour(1000, true), NONE);
    }

    private static void neighbourBeyondThePlace() {
        RosetteGantry x = new RosetteGantry();
        int[] places = {700, 100, 400, 401, 399, 1000, 0, 550};
        for (int place : places) {
            x.addRosette(place, false, 350, 200);
        }
        DUE.is("24: one at the place itself is none, up", x.neighbour(400, true), 3);
        DUE.is("24: one at the place itself is none, down", x.neighbour(400, false), 4);
        DUE.is("24: up from between", x.neighbour(402, true), 7);
        DUE.is("24: down from between", x.neighbour(398, false), 1);
        DUE.is("24: the nearest, not the first", x.neighbour(549, true), 7);
        DUE.is("24: the nearest, not the last", x.neighbour(551, true), 0);
        DUE.is("24: up from 0", x.neighbour(0, true), 1);
        DUE.is("24: down from 1000", x.neighbour(1000, false), 0);
        x.undo();
        DUE.is("24: one that is gone is none", x.neighbour(402, true), 0);
    }

    private static void countBounds() {
        int[] whats = {LEAST, -1, 12, 13, MOST};
        for (int what : whats) {
            TWINS.changesNothing("25: what " + what, TWO, x -> x.count(what), BAD_VALUE);
        }
        RosetteGantry x = new RosetteGantry();
        DUE.is("25: the first what", x.count(0), 0);
        DUE.is("25: the last what", x.count(11), 0);
    }

    private static void countEdges() {
        RosetteGantry x = new RosetteGantry();
        for (int i = 0; i < 9; i++) {
            x.addRosette(i < 8 ? 1000 - i : 0, false, 350, 200);
        }
        for (int i = 0; i < 21; i++) {
            x.request(i < 20 ? 1 : 0, 0, 5);
        }
        for (int i = 0; i < 61; i++) {
            x.type('r');
        }
        int[] full = {8, 20, 20, 0, 0, 0, 0, 100, 0, 1, 5, 60};
        for (int what = 0; what < full.length; what++) {
            DUE.is("25: full, what " + what, x.count(what), full[what]);
        }
        x.setShunt(0, true);
        x.workOff();
        x.request(0, 7, 5);
        x.next();
        int[] done = {8, 0, 21, 21, 20, 993, 1007, 100, 12, 4, 5, 60};
        for (int what = 0; what < done.length; what++) {
            DUE.is("25: done, what " + what, x.count(what), done[what]);
        }
    }
}
