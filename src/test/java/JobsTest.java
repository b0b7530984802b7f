/** Promises 8 to 11: request, cancel, next, workOff. */
public final class JobsTest {
    private static final int UNKNOWN = -1000001;
    private static final int BAD_VALUE = -1000002;
    private static final int REFUSED = -1000003;
    private static final int NONE = -1000004;
    private static final int READ = 0;
    private static final int BALANCE = 1;
    private static final int CHECK = 2;
    private static final Due DUE = new Due("JobsTest");

    public static void main(String[] args) {
        request();
        requestRefused();
        cancel();
        nextOrder();
        nextWay();
        nextIsNearerByOne();
        read();
        balance();
        balanceLimits();
        balanceLimitOfEachGauge();
        check();
        checkRefused();
        refusedJobChangesNothingElse();
        workOff();
        workOffGoesOnFromJobToJob();
        DUE.end();
    }

    /** Rosettes 0, 1 and 2 at 500, 200 and 900. */
    private static RosetteGantry three() {
        RosetteGantry x = new RosetteGantry();
        x.addRosette(500, false, 350, 200);
        x.addRosette(200, false, 350, 200);
        x.addRosette(900, true, 120, 200);
        return x;
    }

    private static void request() {
        RosetteGantry x = new RosetteGantry();
        DUE.is("8: none there", x.request(READ, 0, 5), UNKNOWN);
        x.addRosette(500, false, 350, 200);
        DUE.is("8: unknown is asked first", x.request(-1, 1, -1), UNKNOWN);
        DUE.is("8: rosette -1", x.request(READ, -1, 5), UNKNOWN);
        DUE.is("8: kind -1", x.request(-1, 0, 5), BAD_VALUE);
        DUE.is("8: kind 3", x.request(3, 0, 5), BAD_VALUE);
        DUE.is("8: urgency -1", x.request(READ, 0, -1), BAD_VALUE);
        DUE.is("8: urgency 10", x.request(READ, 0, 10), BAD_VALUE);
        DUE.is("8: nothing was requested", x.count(2), 0);
        DUE.is("8: kind 0, urgency 0", x.request(READ, 0, 0), 0);
        DUE.is("8: kind 2, urgency 9", x.request(CHECK, 0, 9), 1);
        DUE.is("8: acts", x.count(10), 3);
        DUE.is("8: two wait", x.count(1), 2);
        int[] ahead = {1, CHECK, 0, 9, 500};
        for (int what = 0; what < ahead.length; what++) {
            DUE.is("8: job(0, " + what + ")", x.job(0, what), ahead[what]);
        }
        DUE.is("8: undo()", x.undo(), 2);
        DUE.is("8: the number comes again", x.request(BALANCE, 0, 1), 1);
    }

    private static void requestRefused() {
        RosetteGantry x = three();
        for (int i = 0; i < 20; i++) {
            DUE.is("8: number", x.request(i % 3, i % 2, i % 10), i);
        }
        DUE.is("8: the 21st", x.request(READ, 0, 5), REFUSED);
        DUE.is("8: reason 1", x.count(9), 1);
        DUE.is("8: still 20", x.count(1), 20);
        DUE.is("8: still 20 requests", x.count(2), 20);
        DUE.is("8: errors are asked first", x.request(READ, 3, 5), UNKNOWN);
        DUE.is("8: errors are asked first", x.request(READ, 0, 10), BAD_VALUE);
        x.next();
        DUE.is("8: there is room again", x.request(READ, 0, 5), 20);
        DUE.is("8: but for one", x.request(READ, 0, 5), REFUSED);
    }

    private static void cancel() {
        RosetteGantry x = three();
        DUE.is("9: rosette 3", x.cancel(3), UNKNOWN);
        DUE.is("9: rosette -1", x.cancel(-1), UNKNOWN);
        DUE.is("9: none waits", x.cancel(0), NONE);
        DUE.is("9: no act", x.count(10), 3);
        x.request(READ, 0, 5);
        x.request(READ, 1, 5);
        x.request(BALANCE, 0, 5);
        x.request(CHECK, 0, 9);
        x.request(READ, 2, 5);
        DUE.is("9: none for 2 is left out", x.cancel(0), 3);
        DUE.is("9: two wait", x.count(1), 2);
        DUE.is("9: of 1", x.job(0, 0), 1);
        DUE.is("9: of 2", x.job(1, 0), 4);
        DUE.is("9: all requests", x.count(2), 5);
        DUE.is("9: no job is done by it", x.count(3), 0);
        DUE.is("9: none for 0", x.cancel(0), NONE);
        DUE.is("9: undo()", x.undo(), 4);
        DUE.is("9: they wait again", x.count(1), 5);
        DUE.is("9: all for 0", x.rosette(0, 11), 3);
        x.cancel(0);
        DUE.is("9: numbers go on", x.request(READ, 0, 5), 5);
    }

    private static void nextOrder() {
        RosetteGantry x = three();
        DUE.is("10: none waits", x.next(), NONE);
        DUE.is("10: no act", x.count(10), 3);
        x.request(READ, 0, 5);
        x.request(READ, 1, 5);
        x.request(READ, 2, 6);
        x.request(READ, 1, 5);
        x.request(READ, 0, 0);
        DUE.is("10: the most urgent one", x.next(), 2);
        DUE.is("10: the place", x.count(5), 900);
        DUE.is("10: the nearest one", x.next(), 0);
        DUE.is("10: of two alike the lower number", x.next(), 1);
        DUE.is("10: then the higher number", x.next(), 3);
        DUE.is("10: the least urgent one at last", x.next(), 4);
        DUE.is("10: none waits", x.next(), NONE);
        DUE.is("10: five are done", x.count(3), 5);
    }

    private static void nextWay() {
        RosetteGantry x = new RosetteGantry();
        x.addRosette(400, false, 350, 200);
        x.addRosette(600, false, 350, 200);
        x.addRosette(500, false, 350, 200);
        x.request(READ, 2, 9);
        x.request(READ, 1, 5);
        x.request(READ, 0, 5);
        DUE.is("10: from 0 to 500", x.next(), 0);
        DUE.is("10: both are 100 away", x.next(), 1);
        DUE.is("10: the way", x.count(6), 600);
        DUE.is("10: the last one", x.next(), 2);
        DUE.is("10: the way back adds up", x.count(6), 800);
        DUE.is("10: the place", x.count(5), 400);
        x.request(READ, 0, 5);
        x.next();
        DUE.is("10: no way to the same place", x.count(6), 800);
        DUE.is("10: undo()", x.undo(), 4);
        DUE.is("10: it waits again", x.count(1), 1);
        DUE.is("10: it is not done", x.count(3), 3);
    }

    private static void nextIsNearerByOne() {
        RosetteGantry x = new RosetteGantry();
        x.addRosette(500, false, 350, 200);
        x.addRosette(401, false, 350, 200);
        x.addRosette(600, false, 350, 200);
        x.request(READ, 0, 5);
        x.next();
        x.request(READ, 2, 5);
        x.request(READ, 1, 5);
        DUE.is("10: 99 is nearer than 100", x.next(), 2);
        x.request(READ, 0, 5);
        DUE.is("10: 99 is nearer than 199", x.next(), 3);
    }

    private static void read() {
        RosetteGantry x = three();
        x.setStrain(0, 1000, -200, 600);
        x.request(READ, 0, 5);
        DUE.is("10: read", x.next(), 0);
        int[] record = {READ, 0, 1069, 0};
        for (int what = 0; what < record.length; what++) {
            DUE.is("10: record(0, " + what + ")", x.record(0, what), record[what]);
        }
        x.setSize(20);
        x.setStrain(0, 5000, 0, 0);
        x.setOffset(0, 2, 9999);
        x.setShunt(0, true);
        x.request(READ, 0, 5);
        DUE.is("10: within", x.gauge(0, 2, 3), 27198);
        DUE.is("10: read with the shunt on", x.next(), 1);
        DUE.is("10: not refused", x.record(0, 3), 0);
        DUE.is("10: the greater one", x.record(0, 2), x.principal(0, 0));
        x.setOffset(0, 0, 9999);
        DUE.is("10: one is overloaded", x.rosette(0, 10), 1);
        x.request(READ, 0, 5);
        DUE.is("10: read", x.next(), 2);
        DUE.is("10: refused for 2", x.record(0, 3), 2);
        DUE.is("10: no result", x.record(0, 2), NONE);
        DUE.is("10: the reason", x.count(9), 2);
        DUE.is("10: done", x.count(3), 3);
        DUE.is("10: refused", x.count(4), 1);
    }

    private static void balance() {
        RosetteGantry x = three();
        x.setOffset(0, 0, 400);
        x.setOffset(0, 2, -300);
        x.setLeads(0, 10000);
        x.setStrain(0, 100, -250, 150);
        x.request(BALANCE, 0, 5);
        DUE.is("10: balance", x.next(), 0);
        DUE.is("10: two zeros change", x.record(0, 2), 2);
        DUE.is("10: zero 0", x.gauge(0, 0, 4), 388 + 194);
        DUE.is("10: zero 1", x.gauge(0, 1, 4), 0);
        DUE.is("10: zero 2", x.gauge(0, 2, 4), -291 - 486);
        for (int gauge = 0; gauge < 3; gauge++) {
            DUE.is("10: the signal is 0", x.gauge(0, gauge, 2), 0);
        }
        x.request(BALANCE, 0, 5);
        x.next();
        DUE.is("10: no zero changes", x.record(0, 2), 0);
        x.setOffset(0, 0, 0);
        DUE.is("10: the zero is taken off", x.gauge(0, 0, 2), -388);
        x.setLeads(0, 0);
        DUE.is("10: leads do not weaken the zero", x.gauge(0, 0, 2), 200 - 582);
        x.setShunt(0, true);
        x.request(BALANCE, 0, 5);
        DUE.is("10: balance with the shunt on", x.next(), 2);
        DUE.is("10: refused for 4", x.record(0, 3), 4);
        DUE.is("10: the zero stays", x.gauge(0, 0, 4), 582);
        DUE.is("10: no result", x.record(0, 2), NONE);
        DUE.is("10: an act all the same", x.undo(), 4);
        DUE.is("10: it waits again", x.count(1), 1);
        DUE.is("10: the reason stays", x.count(9), 4);
    }

    private static void balanceLimits() {
        RosetteGantry x = three();
        x.setOffset(0, 1, 5000);
        x.setStrain(0, 5000, 5000, 0);
        x.request(BALANCE, 0, 5);
        x.next();
        DUE.is("10: 15000 is within", x.record(0, 3), 0);
        DUE.is("10: zero 1", x.gauge(0, 1, 4), 15000);
        x.setOffset(0, 1, 5001);
        x.setOffset(0, 0, 17);
        x.request(BALANCE, 0, 5);
        x.next();
        DUE.is("10: 15001 is not", x.record(0, 3), 3);
        DUE.is("10: no zero changes", x.gauge(0, 0, 4), 10000);
        x.setStrain(0, -5000, -5000, 0);
        x.setOffset(0, 1, -5000);
        x.request(BALANCE, 0, 5);
        x.next();
        DUE.is("10: -15000 is within", x.record(0, 3), 0);
        DUE.is("10: zero 1", x.gauge(0, 1, 4), -15000);
        x.setOffset(0, 1, -5001);
        x.request(BALANCE, 0, 5);
        x.next();
        DUE.is("10: -15001 is not", x.record(0, 3), 3);
        x.setShunt(0, true);
        x.request(BALANCE, 0, 5);
        x.next();
        DUE.is("10: the shunt is asked first", x.record(0, 3), 4);
        DUE.is("10: refused ones", x.count(4), 3);
    }

    private static void balanceLimitOfEachGauge() {
        for (int gauge = 0; gauge < 3; gauge++) {
            RosetteGantry x = three();
            x.setStrain(0, 3000, 3000, 0);
            x.setOffset(0, gauge, 9001);
            x.request(BALANCE, 0, 5);
            x.next();
            DUE.is("10: 15001 of gauge " + gauge, x.record(0, 3), 3);
            DUE.is("10: no zero changes", x.gauge(0, 0, 4) | x.gauge(0, 1, 4) | x.gauge(0, 2, 4), 0);
            x.setOffset(0, gauge, 9000);
            x.request(BALANCE, 0, 5);
            x.next();
            DUE.is("10: 15000 of gauge " + gauge, x.record(0, 2), 3);
        }
    }

    private static void check() {
        RosetteGantry x = three();
        x.setLeads(0, 10000);
        x.setStrain(0, 1000, -200, 600);
        x.request(CHECK, 0, 5);
        DUE.is("10: check", x.next(), 0);
        DUE.is("10: three gains change", x.record(0, 2), 3);
        for (int gauge = 0; gauge < 3; gauge++) {
            DUE.is("10: the gain", x.gauge(0, gauge, 5), 1028);
        }
        DUE.is("10: the shunt is off as before", x.rosette(0, 8), 0);
        DUE.is("10: the gain is in the corrected strain", x.gauge(0, 0, 6), 999);
        x.setShunt(0, true);
        x.request(CHECK, 0, 5);
        x.next();
        DUE.is("10: no gain changes", x.record(0, 2), 0);
        DUE.is("10: the shunt is on as before", x.rosette(0, 8), 1);
        DUE.is("10: the corrected strain with the shunt on", x.gauge(0, 0, 6), 5334 * 1028 / 1000 * 100 / 200);
        x.setLeads(0, 0);
        x.request(CHECK, 0, 5);
        x.next();
        DUE.is("10: the gain is 1000 again", x.gauge(0, 2, 5), 1000);
    }

    private static void checkRefused() {
        RosetteGantry x = three();
        x.setSize(20);
        x.setStrain(0, 5000, 0, 0);
        x.setOffset(0, 0, 9999);
        DUE.is("10: not overloaded", x.rosette(0, 10), 0);
        x.request(CHECK, 0, 5);
        x.next();
        DUE.is("10: overloaded with the shunt on", x.record(0, 3), 2);
        DUE.is("10: no gain changes", x.gauge(0, 1, 5), 1000);
        // Below -30000 with the shunt off, within with the shunt on: a zero of 15000 makes it so.
        RosetteGantry y = three();
        y.setStrain(0, 5000, 5000, 0);
        y.setOffset(0, 1, 5000);
        y.request(BALANCE, 0, 5);
        y.next();
        y.setStrain(0, -5000, -5000, 0);
        y.setOffset(0, 1, -5001);
        y.setShunt(0, true);
        DUE.is("10: with the shunt on", y.gauge(0, 1, 2), -30001 + 3487);
        DUE.is("10: not overloaded with the shunt on", y.rosette(0, 10), 0);
        y.request(CHECK, 0, 5);
        y.next();
        DUE.is("10: overloaded with the shunt off", y.record(0, 3), 2);
        DUE.is("10: the shunt stays on", y.rosette(0, 8), 1);
        y.setOffset(0, 1, -5000);
        y.request(CHECK, 0, 5);
        y.next();
        DUE.is("10: -30000 is within", y.record(0, 3), 0);
        // Where both readings are at the limit the step is 0, but overload is told first.
        y.setStrain(0, -5000, -5000, -5000);
        DUE.is("10: the step is 0", y.gauge(0, 1, 7), 0);
        y.request(CHECK, 0, 5);
        y.next();
        DUE.is("10: overload is told", y.record(0, 3), 2);
    }

    private static void refusedJobChangesNothingElse() {
        RosetteGantry x = three();
        x.setOffset(0, 0, 500);
        x.setShunt(0, true);
        x.request(BALANCE, 0, 3);
        DUE.is("10: the job", x.next(), 0);
        DUE.is("10: it waits no longer", x.count(1), 0);
        DUE.is("10: it moved the gantry", x.count(5), 500);
        DUE.is("10: the way", x.count(6), 500);
        DUE.is("10: a record", x.count(8), 1);
        DUE.is("10: kind", x.record(0, 0), BALANCE);
        DUE.is("10: rosette", x.record(0, 1), 0);
        x.setShunt(0, false);
        x.request(BALANCE, 0, 3);
        x.next();
        DUE.is("10: not refused", x.record(0, 3), 0);
        DUE.is("10: the reason stays", x.count(9), 4);
        DUE.is("10: the record before", x.record(1, 3), 4);
    }

    private static void workOff() {
        RosetteGantry x = three();
        DUE.is("11: none waits", x.workOff(), NONE);
        DUE.is("11: no act", x.count(10), 3);
        x.setShunt(1, true);
        for (int i = 0; i < 20; i++) {
            x.request(i % 3, i % 2, i % 10);
        }
        String before = Due.whole(x);
        // The jobs 1, 7, 13 and 19 are to balance the rosette 1, the shunt of which is on.
        DUE.is("11: those not refused", x.workOff(), 16);
        DUE.is("11: none waits", x.count(1), 0);
        DUE.is("11: all are done", x.count(3), 20);
        DUE.is("11: refused", x.count(4), 4);
        DUE.is("11: the reason", x.count(9), 4);
        DUE.is("11: 12 records are kept", x.count(8), 12);
        DUE.is("11: undo()", x.undo(), 4);
        DUE.holds("11: one act, all is as before", Due.whole(x).equals(before));
        DUE.is("11: again", x.workOff(), 16);
        x.request(BALANCE, 1, 5);
        DUE.is("11: all are refused", x.workOff(), 0);
    }

    private static void workOffGoesOnFromJobToJob() {
        RosetteGantry x = new RosetteGantry();
        x.addRosette(300, false, 350, 200);
        x.addRosette(450, true, 350, 200);
        x.addRosette(100, true, 350, 200);
        x.addRosette(1000, true, 350, 200);
        x.request(READ, 3, 5);
        x.request(READ, 2, 5);
        x.request(READ, 1, 5);
        x.request(READ, 0, 6);
        DUE.is("11: all", x.workOff(), 4);
        // 300, then 450 (150 away) before 100 (200 away), then 100 (350 away) before 1000 (550 away).
        int[] rosettes = {3, 2, 1, 0};
        for (int i = 0; i < rosettes.length; i++) {
            DUE.is("11: record(" + i + ", 1)", x.record(i, 1), rosettes[i]);
        }
        DUE.is("11: the way", x.count(6), 300 + 150 + 350 + 900);
    }
}
