/** Each sentence of "JOBS" and of the promises 8 to 11 that names a boundary case, by itself. */
public final class BoundsOfJobsTest {
    private static final int UNKNOWN = -1000001;
    private static final int BAD_VALUE = -1000002;
    private static final int NONE = -1000004;
    private static final int LEAST = Integer.MIN_VALUE;
    private static final int MOST = Integer.MAX_VALUE;
    private static final int READ = 0;
    private static final int BALANCE = 1;
    private static final int CHECK = 2;
    private static final Due DUE = new Due("BoundsOfJobsTest");
    private static final Twins TWINS = new Twins(DUE);

    public static void main(String[] args) {
        requestLimits();
        requestOrderOfChecks();
        atMostTwentyWait();
        roomAfterEachWay();
        numbersOfAllRequests();
        greatestUrgency();
        nearestToTheGantry();
        nearestFrom0AtFirst();
        lowestNumber();
        wayAddsUp();
        readRefusedForEachGauge();
        readWithTheShuntAsItIs();
        balanceLimits();
        balanceShuntAheadOfLimits();
        balanceResult();
        checkRefusedForEachReading();
        checkWithTheShuntAsBefore();
        checkStepOf0IsAnOverload();
        checkResult();
        refusedJobMovesTheGantry();
        latestTwelveRecords();
        cancelBounds();
        nextOfNone();
        nextIsAnActAlsoIfRefused();
        workOffBounds();
        DUE.end();
    }

    /** One rosette at 500, right, of 350 ohms and the factor 200: with size 100 its shunt value is 3487. */
    private static final Twins.Run ONE = x -> x.addRosette(500, false, 350, 200);

    private static final Twins.Run FULL = x -> {
        ONE.on(x);
        x.addRosette(700, true, 120, 240);
        for (int i = 0; i < 20; i++) {
            x.request(READ, 0, 5);
        }
    };

    private static int job(RosetteGantry x, int kind) {
        x.request(kind, 0, 5);
        x.next();
        return x.record(0, 3);
    }

    /** Brings the zero of a gauge to 15000 or -15000, those of the others to 10000 or -10000. */
    private static RosetteGantry withZero(int gauge, boolean above) {
        RosetteGantry x = Twins.made(ONE);
        int sign = above ? 1 : -1;
        x.setStrain(0, sign * 5000, sign * 5000, 0);
        x.setOffset(0, gauge, sign * 5000);
        DUE.is("10: not refused", job(x, BALANCE), 0);
        DUE.is("10: the zero at its limit", x.gauge(0, gauge, 4), sign * 15000);
        DUE.is("10: the zero of the next one", x.gauge(0, (gauge + 1) % 3, 4), sign * 10000);
        return x;
    }

    private static void requestLimits() {
        int[] kinds = {LEAST, -1, 3, MOST};
        int[] urgencies = {LEAST, -1, 10, MOST};
        for (int kind : kinds) {
            TWINS.changesNothing("8: kind " + kind, ONE, x -> x.request(kind, 0, 5), BAD_VALUE);
        }
        for (int urgency : urgencies) {
            TWINS.changesNothing("8: urgency " + urgency, ONE, x -> x.request(READ, 0, urgency), BAD_VALUE);
        }
        RosetteGantry x = Twins.made(ONE);
        for (int i = 0; i < 6; i++) {
            DUE.is("8: within", x.request(i % 3, 0, i < 3 ? 9 : 0), i);
            DUE.is("8: its kind", x.job(i, 1), i % 3);
            DUE.is("8: its urgency", x.job(i, 3), i < 3 ? 9 : 0);
        }
        TWINS.isAnAct("8: request", ONE, y -> y.request(CHECK, 0, 9), 0);
    }

    private static void requestOrderOfChecks() {
        int[] rosettes = {LEAST, -1, 2, 7, 8, MOST};
        for (int r : rosettes) {
            TWINS.changesNothing("8: rosette " + r, FULL, x -> x.request(READ, r, 5), UNKNOWN);
            TWINS.changesNothing("8: UNKNOWN ahead of the kind", FULL, x -> x.request(3, r, 5), UNKNOWN);
            TWINS.changesNothing("8: UNKNOWN ahead of the urgency", FULL, x -> x.request(READ, r, 10), UNKNOWN);
        }
        TWINS.changesNothing("8: BAD_VALUE ahead of room", FULL, x -> x.request(3, 0, 5), BAD_VALUE);
        TWINS.changesNothing("8: BAD_VALUE ahead of room", FULL, x -> x.request(READ, 1, -1), BAD_VALUE);
        TWINS.isRefused("8: 20 wait", FULL, x -> x.request(READ, 0, 9), 1);
        TWINS.isRefused("8: 20 wait, whatever rosette", FULL, x -> x.request(CHECK, 1, 0), 1);
    }

    private static void atMostTwentyWait() {
        RosetteGantry x = Twins.made(ONE);
        for (int i = 0; i < 20; i++) {
            DUE.is("8: room for " + i, x.request(READ, 0, i % 10), i);
            DUE.is("8: so many wait", x.count(1), i + 1);
            DUE.is("8: for the rosette", x.rosette(0, 11), i + 1);
        }
        DUE.is("8: no room", x.request(READ, 0, 5), -1000003);
        DUE.is("8: 20 wait", x.count(1), 20);
        DUE.is("8: the last one is told", x.job(19, 0), 10);
        DUE.is("8: there is no other", x.job(20, 0), NONE);
        for (int i = 0; i < 20; i++) {
            DUE.is("10: each is done, 9 first", x.next(), i % 2 == 0 ? 9 - i / 2 : 19 - i / 2);
        }
        DUE.is("10: none waits", x.next(), NONE);
    }

    private static void roomAfterEachWay() {
        Twins.Call[] ways = {x -> x.next(), x -> x.workOff(), x -> x.cancel(0), x -> x.undo()};
        int[] left = {19, 0, 0, 19};
        for (int i = 0; i < ways.length; i++) {
            RosetteGantry x = Twins.made(FULL);
            ways[i].on(x);
            DUE.is("8: wait still", x.count(1), left[i]);
            for (int more = left[i]; more < 20; more++) {
                DUE.is("8: there is room", x.request(READ, 1, 5), i == 3 ? 19 : 20 + more - left[i]);
            }
            DUE.is("8: no more room", x.request(READ, 1, 5), -1000003);
        }
    }

    private static void numbersOfAllRequests() {
        RosetteGantry x = Twins.made(ONE);
        DUE.is("JOBS: from 0", x.request(READ, 0, 5), 0);
        x.next();
        DUE.is("JOBS: a done one counts", x.request(READ, 0, 5), 1);
        x.cancel(0);
        DUE.is("JOBS: a cancelled one, too", x.request(READ, 0, 5), 2);
        x.request(3, 0, 5);
        x.request(READ, 1, 5);
        DUE.is("JOBS: an error does not", x.request(READ, 0, 5), 3);
        x.undo();
        DUE.is("JOBS: nor one that was undone", x.request(READ, 0, 5), 3);
        x.type('r');
        x.type('0');
        DUE.is("JOBS: by a text", x.readJobs(), 1);
        DUE.is("JOBS: it counts", x.request(READ, 0, 5), 5);
        DUE.is("JOBS: all requests", x.count(2), 6);
        RosetteGantry full = Twins.made(FULL);
        full.request(READ, 0, 5);
        full.next();
        DUE.is("JOBS: a refused one does not", full.request(READ, 0, 5), 20);
    }

    private static void greatestUrgency() {
        RosetteGantry x = Twins.made(ONE);
        x.addRosette(0, false, 350, 200);
        for (int urgency = 0; urgency <= 9; urgency++) {
            x.request(READ, urgency % 2, urgency);
        }
        for (int urgency = 9; urgency >= 0; urgency--) {
            DUE.is("JOBS: the urgency goes ahead of the way and the number", x.next(), urgency);
        }
    }

    private static void nearestToTheGantry() {
        RosetteGantry x = new RosetteGantry();
        int[] places = {500, 499, 502, 0, 1000};
        for (int place : places) {
            x.addRosette(place, false, 350, 200);
        }
        x.request(READ, 0, 9);
        x.next();
        for (int r = 4; r >= 0; r--) {
            x.request(READ, r, 5);
        }
        // From 500: itself, then 499 (1 away), 502 (3 away from 499, where 0 is 499 away), 1000, 0.
        int[] due = {5, 4, 3, 1, 2};
        for (int i = 0; i < due.length; i++) {
            DUE.is("22: the nearest from job to job", x.job(i, 0), due[i]);
        }
        for (int number : due) {
            DUE.is("JOBS: the nearest from where the gantry is then", x.next(), number);
        }
        DUE.is("JOBS: the way", x.count(6), 500 + 1 + 3 + 498 + 1000);
    }

    private static void nearestFrom0AtFirst() {
        RosetteGantry x = new RosetteGantry();
        x.addRosette(1000, false, 350, 200);
        x.addRosette(1, false, 350, 200);
        x.addRosette(0, false, 350, 200);
        for (int r = 0; r < 3; r++) {
            x.request(READ, r, 5);
        }
        DUE.is("JOBS: the place is 0 at first", x.count(5), 0);
        DUE.is("JOBS: at the place itself", x.next(), 2);
        DUE.is("JOBS: no way", x.count(6), 0);
        DUE.is("JOBS: then by 1", x.next(), 1);
        DUE.is("JOBS: then by 999", x.next(), 0);
        DUE.is("JOBS: at the end of the rail", x.count(5), 1000);
        DUE.is("JOBS: the way", x.count(6), 1000);
    }

    private static void lowestNumber() {
        RosetteGantry x = new RosetteGantry();
        x.addRosette(500, false, 350, 200);
        x.addRosette(600, false, 350, 200);
        x.addRosette(400, false, 350, 200);
        x.request(READ, 0, 9);
        x.request(READ, 1, 5);
        x.request(READ, 2, 5);
        x.next();
        DUE.is("JOBS: as near above as below", x.job(0, 0), 1);
        x.cancel(1);
        x.request(READ, 1, 5);
        DUE.is("JOBS: as near below as above", x.next(), 2);
        x.request(BALANCE, 1, 5);
        DUE.is("JOBS: for one rosette the lower number", x.next(), 3);
        DUE.is("JOBS: then the higher one", x.next(), 4);
    }

    private static void wayAddsUp() {
        RosetteGantry x = new RosetteGantry();
        x.addRosette(1000, false, 350, 200);
        x.addRosette(0, false, 350, 200);
        int way = 0;
        for (int i = 0; i < 40; i++) {
            x.request(READ, i % 2, 5);
            x.next();
            way += 1000;
            DUE.is("JOBS: the way there and back", x.count(6), way);
            DUE.is("JOBS: the place", x.count(5), i % 2 == 0 ? 1000 : 0);
        }
    }

    private static void readRefusedForEachGauge() {
        for (int gauge = 0; gauge < 3; gauge++) {
            for (int side = 0; side < 2; side++) {
                int sign = side == 0 ? 1 : -1;
                RosetteGantry x = withZero(gauge, side == 1);
                x.setStrain(0, sign * 5000, sign * 5000, 0);
                x.setOffset(0, gauge, sign * 5000);
                DUE.is("10: at the limit", x.gauge(0, gauge, 2), sign * 30000);
                DUE.is("10: it is read", job(x, READ), 0);
                DUE.is("10: the result", x.record(0, 2), x.principal(0, 0));
                x.setOffset(0, gauge, sign * 5001);
                DUE.is("10: beyond, gauge " + gauge, job(x, READ), 2);
                DUE.is("10: no result", x.record(0, 2), NONE);
                DUE.is("10: the reason", x.count(9), 2);
            }
        }
    }

    private static void readWithTheShuntAsItIs() {
        RosetteGantry x = withZero(1, false);
        x.setStrain(0, 5000, 5000, 0);
        x.setOffset(0, 1, 5000 - 3487);
        DUE.is("10: off, it is read", job(x, READ), 0);
        x.setShunt(0, true);
        DUE.is("10: 30000 with the shunt on", x.gauge(0, 1, 2), 30000);
        DUE.is("10: it is read", job(x, READ), 0);
        x.setOffset(0, 1, 5001 - 3487);
        DUE.is("10: 30001 with the shunt on", job(x, READ), 2);
        x.setShunt(0, false);
        DUE.is("10: off again, it is read", job(x, READ), 0);
    }

    private static void balanceLimits() {
        for (int gauge = 0; gauge < 3; gauge++) {
            for (int side = 0; side < 2; side++) {
                int sign = side == 0 ? 1 : -1;
                // The signal is within these limits, but the zero that would be is not: it is told by the sum.
                RosetteGantry x = withZero(gauge, side == 0);
                x.setOffset(0, gauge, sign * 5001);
                DUE.is("10: the signal", x.gauge(0, gauge, 2), sign);
                DUE.is("10: 15001, gauge " + gauge, job(x, BALANCE), 3);
                DUE.is("10: the reason", x.count(9), 3);
                DUE.is("10: no result", x.record(0, 2), NONE);
                DUE.is("10: the zero stays", x.gauge(0, gauge, 4), sign * 15000);
                x.setOffset(0, (gauge + 1) % 3, 3);
                x.setOffset(0, (gauge + 2) % 3, 3);
                job(x, BALANCE);
                DUE.is("10: those of the others, too", x.gauge(0, (gauge + 1) % 3, 4), sign * 10000);
                DUE.is("10: those of the others, too", x.gauge(0, (gauge + 2) % 3, 4), sign * 10000);
                x.setOffset(0, gauge, sign * 5000);
                DUE.is("10: 15000", job(x, BALANCE), 0);
                // A great signal, but the zero that would be is within: from 15000 to -15000.
                x.setStrain(0, -sign * 5000, -sign * 5000, 0);
                x.setOffset(0, gauge, -sign * 5000);
                DUE.is("10: the signal", x.gauge(0, gauge, 2), -sign * 30000);
                DUE.is("10: to the other end", job(x, BALANCE), 0);
                DUE.is("10: the zero", x.gauge(0, gauge, 4), -sign * 15000);
                DUE.is("10: the signal is 0", x.gauge(0, gauge, 2), 0);
            }
        }
    }

    private static void balanceShuntAheadOfLimits() {
        RosetteGantry x = withZero(2, true);
        x.setOffset(0, 2, 5001);
        x.setShunt(0, true);
        DUE.is("10: the shunt is asked ahead", job(x, BALANCE), 4);
        x.setShunt(0, false);
        DUE.is("10: then the zero", job(x, BALANCE), 3);
        RosetteGantry y = Twins.made(ONE);
        y.addRosette(600, false, 350, 200);
        y.setShunt(1, true);
        DUE.is("10: the shunt for another rosette is none", job(y, BALANCE), 0);
        y.setShunt(1, false);
        y.setShunt(0, true);
        DUE.is("10: the shunt for this one", job(y, BALANCE), 4);
        // An overloaded gauge is no reason against a balance, if the zero is within.
        RosetteGantry z = withZero(0, true);
        z.setStrain(0, -5000, -5000, 0);
        z.setOffset(0, 0, -4999);
        z.setOffset(0, 1, 1);
        DUE.is("10: not overloaded", z.rosette(0, 10), 0);
        z.setOffset(0, 0, -5001);
        DUE.is("10: overloaded", z.rosette(0, 10), 1);
        DUE.is("10: the zero is what is asked", job(z, BALANCE), 3);
    }

    private static void balanceResult() {
        RosetteGantry x = Twins.made(ONE);
        DUE.is("10: nothing to balance", job(x, BALANCE), 0);
        DUE.is("10: no zero changes", x.record(0, 2), 0);
        for (int changed = 1; changed <= 3; changed++) {
            for (int gauge = 0; gauge < changed; gauge++) {
                x.setOffset(0, gauge, 10 * changed + gauge);
            }
            job(x, BALANCE);
            DUE.is("10: so many zeros change", x.record(0, 2), changed);
        }
        job(x, BALANCE);
        DUE.is("10: none changes once more", x.record(0, 2), 0);
        for (int gauge = 0; gauge < 3; gauge++) {
            x.setOffset(0, gauge, 0);
        }
        job(x, BALANCE);
        DUE.is("10: back to 0", x.record(0, 2), 3);
        DUE.is("10: the zero is 0", x.gauge(0, 2, 4), 0);
    }

    private static void checkRefusedForEachReading() {
        for (int gauge = 0; gauge < 3; gauge++) {
            for (int side = 0; side < 2; side++) {
                boolean on = side == 1;
                RosetteGantry above = withZero(gauge, false);
                above.setStrain(0, 5000, 5000, 0);
                above.setOffset(0, gauge, 5000 - 3487);
                above.setShunt(0, on);
                DUE.is("10: 30000 with the shunt on", job(above, CHECK), 0);
                above.setOffset(0, gauge, 5001 - 3487);
                DUE.is("10: 30001 with the shunt on, gauge " + gauge, job(above, CHECK), 2);
                DUE.is("10: no result", above.record(0, 2), NONE);
                RosetteGantry below = withZero(gauge, true);
                below.setStrain(0, -5000, -5000, 0);
                below.setOffset(0, gauge, -5000);
                below.setShunt(0, on);
                DUE.is("10: -30000 with the shunt off", job(below, CHECK), 0);
                below.setOffset(0, gauge, -5001);
                DUE.is("10: -30001 with the shunt off, gauge " + gauge, job(below, CHECK), 2);
                DUE.is("10: the reason", below.count(9), 2);
            }
        }
    }

    private static void checkWithTheShuntAsBefore() {
        RosetteGantry x = Twins.made(ONE);
        x.addRosette(600, false, 350, 200);
        x.setLeads(0, 10000);
        for (int i = 0; i < 4; i++) {
            boolean on = i % 2 == 1;
            x.setShunt(0, on);
            x.setShunt(1, !on);
            int signal = x.gauge(0, 0, 2);
            DUE.is("10: checked", job(x, CHECK), 0);
            DUE.is("10: on or off as before", x.rosette(0, 8), on ? 1 : 0);
            DUE.is("10: that of the other one, too", x.rosette(1, 8), on ? 0 : 1);
            DUE.is("10: the signal as before", x.gauge(0, 0, 2), signal);
            DUE.is("10: the gain, either way", x.gauge(0, 0, 5), 1028);
        }
        x.setShunt(0, true);
        x.setOffset(0, 0, 9999);
        x.setStrain(0, 5000, 5000, 0);
        x.setSize(20);
        DUE.is("10: refused", job(x, CHECK), 2);
        DUE.is("10: on as before", x.rosette(0, 8), 1);
    }

    /** The reason 5 is never told: a step of 0 needs two readings at one limit, and at least one is beyond it. */
    private static void checkStepOf0IsAnOverload() {
        for (int gauge = 0; gauge < 3; gauge++) {
            RosetteGantry below = withZero(gauge, true);
            below.setStrain(0, -5000, -5000, 0);
            below.setOffset(0, gauge, -5000 - 3487);
            DUE.is("19: the step is 0 up to -30000", below.gauge(0, gauge, 7), 0);
            DUE.is("10: -33487 with the shunt off", job(below, CHECK), 2);
            below.setOffset(0, gauge, -5000 - 3486);
            DUE.is("19: the step is 1", below.gauge(0, gauge, 7), 1);
            RosetteGantry above = withZero(gauge, false);
            above.setStrain(0, 5000, 5000, 0);
            above.setOffset(0, gauge, 5000);
            DUE.is("19: the step is 0 from 30000", above.gauge(0, gauge, 7), 0);
            DUE.is("10: 33487 with the shunt on", job(above, CHECK), 2);
            above.setOffset(0, gauge, 4999);
            DUE.is("19: the step is 1", above.gauge(0, gauge, 7), 1);
        }
        RosetteGantry least = new RosetteGantry();
        least.addRosette(500, true, 120, 200);
        least.setSize(500);
        least.setLeads(0, 20000);
        DUE.is("10: the least step that there is", least.gauge(0, 0, 7), 204);
        DUE.is("10: it is checked", job(least, CHECK), 0);
        DUE.is("10: 239 * 1000 / 204", least.gauge(0, 2, 5), 1171);
    }

    private static void checkResult() {
        RosetteGantry x = Twins.made(ONE);
        job(x, CHECK);
        DUE.is("10: the gains are 1000 at first", x.record(0, 2), 0);
        x.setLeads(0, 10000);
        job(x, CHECK);
        DUE.is("10: three gains change", x.record(0, 2), 3);
        job(x, CHECK);
        DUE.is("10: none once more", x.record(0, 2), 0);
        x.setLeads(0, 10001);
        job(x, CHECK);
        DUE.is("10: none, by a milliohm", x.record(0, 2), 0);
        x.setLeads(0, 0);
        job(x, CHECK);
        DUE.is("10: three change back", x.record(0, 2), 3);
        DUE.is("10: to 1000", x.gauge(0, 0, 5), 1000);
    }

    private static void refusedJobMovesTheGantry() {
        Twins.Run shuntOn = x -> {
            ONE.on(x);
            x.addRosette(300, true, 120, 180);
            x.setStrain(0, 5000, 5000, 5000);
            x.setOffset(0, 1, 9999);
            x.setSize(20);
            x.setShunt(0, true);
        };
        int[] reasons = {2, 4, 2};
        for (int kind = 0; kind < 3; kind++) {
            RosetteGantry x = Twins.made(shuntOn);
            RosetteGantry same = Twins.made(shuntOn);
            DUE.is("10: refused", job(x, kind), reasons[kind]);
            DUE.is("10: it waits no longer", x.count(1), 0);
            DUE.is("10: it is done", x.count(3), 1);
            DUE.is("10: and refused", x.count(4), 1);
            DUE.is("10: the gantry has moved", x.count(5), 500);
            DUE.is("10: its way", x.count(6), 500);
            DUE.is("10: the size", x.count(7), 20);
            for (int r = 0; r < 2; r++) {
                for (int what = 0; what < 12; what++) {
                    DUE.is("10: the rosettes are as before", x.rosette(r, what), same.rosette(r, what));
                }
                for (int what = 0; what < 8; what++) {
                    for (int gauge = 0; gauge < 3; gauge++) {
                        DUE.is("10: and the gauges", x.gauge(r, gauge, what), same.gauge(r, gauge, what));
                    }
                }
            }
            int[] record = {kind, 0, NONE, reasons[kind]};
            for (int what = 0; what < 4; what++) {
                DUE.is("10: the record", x.record(0, what), record[what]);
            }
        }
    }

    private static void latestTwelveRecords() {
        RosetteGantry x = Twins.made(ONE);
        x.addRosette(600, true, 350, 200);
        for (int i = 1; i <= 30; i++) {
            x.setOffset(0, 0, 2 * i);
            job(x, READ);
            DUE.is("JOBS: kept", x.count(8), Math.min(i, 12));
            DUE.is("JOBS: the latest", x.record(0, 2), x.principal(0, 0));
            DUE.is("JOBS: there is no more", x.record(Math.min(i, 12), 2), NONE);
        }
        int[] kept = new int[12];
        for (int i = 0; i < 12; i++) {
            kept[i] = x.record(i, 2);
            // The corrected strains are i, 0 and 0: the mean is i / 2, the radius the greatest pull / 20000.
            x.setOffset(0, 0, 2 * (30 - i));
            DUE.is("JOBS: the record of " + (30 - i), kept[i], x.principal(0, 0));
        }
        job(x, CHECK);
        for (int i = 1; i < 12; i++) {
            DUE.is("JOBS: the others stay", x.record(i, 2), kept[i - 1]);
        }
        x.undo();
        DUE.is("15: the oldest one comes back", x.record(11, 2), kept[11]);
    }

    private static void cancelBounds() {
        int[] rosettes = {LEAST, -1, 2, 7, 8, MOST};
        for (int r : rosettes) {
            TWINS.changesNothing("9: rosette " + r, FULL, x -> x.cancel(r), UNKNOWN);
        }
        TWINS.changesNothing("9: none for the other one", FULL, x -> x.cancel(1), NONE);
        TWINS.changesNothing("9: none at all", ONE, x -> x.cancel(0), NONE);
        TWINS.isAnAct("9: all of 20", FULL, x -> x.cancel(0), 20);
        Twins.Run mixed = x -> {
            ONE.on(x);
            x.addRosette(700, true, 120, 240);
            for (int i = 0; i < 20; i++) {
                x.request(i % 3, i % 4 == 2 ? 0 : 1, i % 10);
            }
        };
        TWINS.isAnAct("9: five of 20", mixed, x -> x.cancel(0), 5);
        RosetteGantry x = Twins.made(mixed);
        x.cancel(1);
        DUE.is("9: the others wait", x.count(1), 5);
        // The jobs 2, 6, 10, 14 and 18 have the urgencies 2, 6, 0, 4 and 8.
        int[] left = {18, 6, 14, 2, 10};
        for (int i = 0; i < left.length; i++) {
            DUE.is("9: which ones, in which order", x.job(i, 0), left[i]);
        }
        DUE.is("9: none for 1", x.rosette(1, 11), 0);
        DUE.is("9: one alone", Twins.made(y -> {
            ONE.on(y);
            y.request(READ, 0, 0);
        }).cancel(0), 1);
    }

    private static void nextOfNone() {
        TWINS.changesNothing("10: no rosette", x -> { }, x -> x.next(), NONE);
        TWINS.changesNothing("10: none waits", ONE, x -> x.next(), NONE);
        Twins.Run done = x -> {
            ONE.on(x);
            job(x, READ);
        };
        TWINS.changesNothing("10: none waits any more", done, x -> x.next(), NONE);
        TWINS.changesNothing("11: no rosette", x -> { }, x -> x.workOff(), NONE);
        TWINS.changesNothing("11: none waits", ONE, x -> x.workOff(), NONE);
        TWINS.changesNothing("11: none waits any more", done, x -> x.workOff(), NONE);
    }

    private static void nextIsAnActAlsoIfRefused() {
        for (int kind = 0; kind < 3; kind++) {
            int what = kind;
            Twins.Run good = x -> {
                ONE.on(x);
                x.setOffset(0, 0, 9);
                x.setLeads(0, 5000);
                x.request(what, 0, 5);
            };
            Twins.Run bad = x -> {
                good.on(x);
                x.setOffset(0, 0, 9999);
                x.setStrain(0, 5000, 0, 0);
                x.setSize(20);
                x.setShunt(0, true);
            };
            TWINS.isAnAct("10: next", good, x -> x.next(), 0);
            TWINS.isAnAct("10: next that is refused", bad, x -> x.next(), 0);
            TWINS.isAnAct("11: workOff", good, x -> x.workOff(), 1);
            TWINS.isAnAct("11: workOff of none but refused ones", bad, x -> x.workOff(), 0);
            RosetteGantry x = Twins.made(bad);
            x.next();
            int reason = x.count(9);
            DUE.is("REASONS: of the job", reason, what == BALANCE ? 4 : 2);
            x.undo();
            DUE.is("REASONS: it stays", x.count(9), reason);
        }
    }

    private static void workOffBounds() {
        TWINS.isAnAct("11: all of 20", FULL, x -> x.workOff(), 20);
        RosetteGantry x = Twins.made(FULL);
        x.workOff();
        DUE.is("11: none waits", x.count(1), 0);
        DUE.is("11: 20 are done", x.count(3), 20);
        DUE.is("11: 12 records", x.count(8), 12);
        RosetteGantry y = Twins.made(ONE);
        y.request(BALANCE, 0, 1);
        y.setShunt(0, true);
        y.request(READ, 0, 9);
        y.request(BALANCE, 0, 5);
        y.request(CHECK, 0, 0);
        DUE.is("11: two of four", y.workOff(), 2);
        int[] reasons = {0, 4, 4, 0};
        for (int i = 0; i < reasons.length; i++) {
            DUE.is("11: record " + i, y.record(i, 3), reasons[i]);
        }
        DUE.is("11: the latest reason", y.count(9), 4);
    }
}
