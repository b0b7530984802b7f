/** Each sentence of "REASONS", "HISTORY" and of the promises 15 to 17 that names a boundary case, by itself. */
public final class BoundsOfHistoryTest {
    private static final int UNKNOWN = -1000001;
    private static final int BAD_VALUE = -1000002;
    private static final int REFUSED = -1000003;
    private static final int NONE = -1000004;
    private static final Due DUE = new Due("BoundsOfHistoryTest");
    private static final Twins TWINS = new Twins(DUE);

    public static void main(String[] args) {
        reasonIs0AtFirst();
        reasonStaysUntilTheNext();
        errorsAndNoneSetNoReason();
        jobSetsTheReason();
        historyIsEmptyAtFirst();
        historyKeepsFive();
        oldestIsDropped();
        undoOfOneState();
        undoIsNoAct();
        eachActIsRecorded();
        noOtherCallIsRecorded();
        numbersThatAreNoErrors();
        snapshotIsEmptyAtFirst();
        snapshotOfNothing();
        snapshotIsReplaced();
        snapshotStays();
        restoreIsAnAct();
        stateIsNoReasonTextHistoryOrSnapshot();
        stateIsAllElse();
        upTo512Calls();
        DUE.end();
    }

    /** Two rosettes with all that can be set, jobs that wait, records, a text and the reason 4. */
    private static final Twins.Run RICH = x -> {
        x.addRosette(500, false, 350, 200);
        x.addRosette(20, true, 120, 240);
        x.setStrain(0, 100, -200, 300);
        x.setLeads(0, 10000);
        x.setOffset(0, 1, 77);
        x.request(1, 0, 7);
        x.request(2, 0, 6);
        x.workOff();
        x.setShunt(1, true);
        x.setStrain(1, -7, 8, -9);
        x.setOffset(1, 2, -44);
        x.setSize(60);
        x.request(1, 1, 9);
        x.next();
        x.request(0, 0, 2);
        x.request(2, 1, 3);
        Due.typeAll(x, "r0!4,s1");
    };

    private static final Twins.Call[] ACTS = {
        x -> x.addRosette(900, true, 120, 180), x -> x.setStrain(0, 1, 2, 3), x -> x.setLeads(1, 20000),
        x -> x.setOffset(0, 0, -9999), x -> x.setShunt(1, false), x -> x.setSize(500), x -> x.request(2, 1, 0),
        x -> x.cancel(0), x -> x.next(), x -> x.workOff(), x -> x.readJobs(), x -> x.restore()};
    /** What the acts answer behind RICH; the reading of the gauge 0 without the shunt is -7 * 240 / 100. */
    private static final int[] ANSWERS = {2, 3, 0, 0, -16, 60, 5, 1, 4, 2, 2, 2};

    private static void reasonIs0AtFirst() {
        RosetteGantry x = new RosetteGantry();
        DUE.is("REASONS: 0 at first", x.count(9), 0);
        x.addRosette(0, true, 120, 200);
        x.request(0, 0, 5);
        x.next();
        DUE.is("REASONS: no refusal yet", x.count(9), 0);
    }

    private static void reasonStaysUntilTheNext() {
        RosetteGantry x = new RosetteGantry();
        x.addRosette(0, true, 120, 200);
        DUE.is("REASONS: taken", x.addRosette(0, true, 120, 200), REFUSED);
        DUE.is("REASONS: 6", x.count(9), 6);
        x.setLeads(0, 7);
        x.request(0, 0, 5);
        x.next();
        x.keep();
        x.restore();
        x.undo();
        x.type('r');
        x.clearText();
        x.next();
        DUE.is("REASONS: 6 through all that is not refused", x.count(9), 6);
        for (int i = 0; i < 61; i++) {
            x.type('x');
        }
        DUE.is("REASONS: 1, the next one", x.count(9), 1);
        x.setShunt(0, true);
        x.request(1, 0, 5);
        x.next();
        DUE.is("REASONS: 4, the next one", x.count(9), 4);
        x.addRosette(0, true, 120, 200);
        DUE.is("REASONS: 6 again", x.count(9), 6);
    }

    private static void errorsAndNoneSetNoReason() {
        RosetteGantry x = new RosetteGantry();
        x.addRosette(0, true, 120, 200);
        x.addRosette(0, true, 120, 200);
        int[] got = {x.setLeads(1, 0), x.setLeads(0, -1), x.setLeads(0, 0), x.readJobs(), x.next(), x.restore()};
        int[] due = {UNKNOWN, BAD_VALUE, NONE, -100, NONE, NONE};
        for (int i = 0; i < due.length; i++) {
            DUE.is("ERRORS: call " + i, got[i], due[i]);
        }
        DUE.is("REASONS: it stays", x.count(9), 6);
    }

    private static void jobSetsTheReason() {
        RosetteGantry x = new RosetteGantry();
        x.addRosette(0, false, 350, 200);
        x.setShunt(0, true);
        x.request(1, 0, 5);
        DUE.is("REASONS: a request sets none", x.count(9), 0);
        x.next();
        DUE.is("REASONS: 4", x.count(9), 4);
        x.setStrain(0, 5000, 5000, 0);
        x.setOffset(0, 0, 9999);
        x.setSize(20);
        x.request(0, 0, 5);
        x.next();
        DUE.is("REASONS: 2", x.count(9), 2);
        x.setShunt(0, false);
        x.request(1, 0, 5);
        x.next();
        DUE.is("REASONS: 3", x.count(9), 3);
        x.request(2, 0, 5);
        x.workOff();
        DUE.is("REASONS: 2 by workOff", x.count(9), 2);
        x.setShunt(0, true);
        x.request(1, 0, 9);
        x.request(0, 0, 5);
        x.workOff();
        DUE.is("REASONS: that of the latest one", x.count(9), 2);
        x.setOffset(0, 0, 0);
        x.request(1, 0, 9);
        x.request(0, 0, 5);
        DUE.is("REASONS: the latest one is not refused", x.workOff(), 1);
        DUE.is("REASONS: 4 stays", x.count(9), 4);
    }

    private static void historyIsEmptyAtFirst() {
        TWINS.changesNothing("15: empty at first", x -> { }, x -> x.undo(), NONE);
        TWINS.changesNothing("15: emptied", x -> {
            x.setSize(50);
            x.undo();
        }, x -> x.undo(), NONE);
        TWINS.changesNothing("15: with a reason", x -> {
            x.addRosette(5, true, 120, 200);
            x.addRosette(5, true, 120, 200);
            x.undo();
        }, x -> x.undo(), NONE);
    }

    private static void historyKeepsFive() {
        for (int acts = 0; acts <= 8; acts++) {
            RosetteGantry x = new RosetteGantry();
            for (int i = 0; i < acts; i++) {
                x.setSize(200 + i);
            }
            DUE.is("HISTORY: at most five", x.count(10), Math.min(acts, 5));
            for (int left = Math.min(acts, 5) - 1; left >= 0; left--) {
                DUE.is("15: so many are left", x.undo(), left);
                DUE.is("15: told", x.count(10), left);
                int before = acts - Math.min(acts, 5) + left;
                DUE.is("15: the state", x.count(7), before == 0 ? 100 : 199 + before);
            }
            DUE.is("15: none is left", x.undo(), NONE);
            DUE.is("15: the state stays", x.count(7), acts <= 5 ? 100 : 199 + acts - 5);
        }
    }

    private static void oldestIsDropped() {
        RosetteGantry x = new RosetteGantry();
        for (int i = 0; i < 100; i++) {
            x.setSize(200 + i);
        }
        DUE.is("HISTORY: five of 100", x.count(10), 5);
        x.undo();
        x.undo();
        x.setSize(50);
        x.setSize(51);
        x.setSize(52);
        DUE.is("HISTORY: five again", x.count(10), 5);
        int[] due = {51, 50, 297, 296, 295};
        for (int i = 0; i < due.length; i++) {
            DUE.is("15: undo", x.undo(), 4 - i);
            DUE.is("15: the state before", x.count(7), due[i]);
        }
        DUE.is("15: the older ones are dropped", x.undo(), NONE);
    }

    private static void undoOfOneState() {
        RosetteGantry x = new RosetteGantry();
        x.addRosette(5, true, 120, 200);
        DUE.is("15: 0 states are left", x.undo(), 0);
        DUE.is("15: no rosette", x.count(0), 0);
        DUE.is("15: empty", x.undo(), NONE);
        x.addRosette(6, true, 120, 200);
        DUE.is("15: one again", x.count(10), 1);
        DUE.is("15: 0 states are left", x.undo(), 0);
    }

    private static void undoIsNoAct() {
        RosetteGantry x = new RosetteGantry();
        x.setSize(50);
        x.setSize(60);
        x.setSize(70);
        DUE.is("15: two are left", x.undo(), 2);
        DUE.is("15: the second one", x.count(7), 60);
        DUE.is("15: one is left", x.undo(), 1);
        DUE.is("15: it does not undo the undoing", x.count(7), 50);
    }

    private static void eachActIsRecorded() {
        Twins.Run kept = x -> {
            RICH.on(x);
            x.keep();
        };
        for (int act = 0; act < ACTS.length; act++) {
            TWINS.isAnAct("HISTORY: act " + act, kept, ACTS[act], ANSWERS[act]);
        }
    }

    private static void noOtherCallIsRecorded() {
        Twins.Call[] calls = {
            x -> x.type('r'), x -> x.clearText(), x -> x.keep(), x -> x.addRosette(5, true, 120, 200),
            x -> x.addRosette(5, true, 0, 200), x -> x.setStrain(1, 0, 0, 0), x -> x.setStrain(0, 0, 0, 0),
            x -> x.setLeads(0, 0), x -> x.setOffset(0, 3, 0), x -> x.setShunt(0, false), x -> x.setSize(100),
            x -> x.request(3, 0, 5), x -> x.cancel(0), x -> x.next(), x -> x.workOff(), x -> x.readJobs(),
            x -> x.rosette(0, 9), x -> x.gauge(0, 0, 7), x -> x.principal(0, 2), x -> x.pull(0, 3), x -> x.job(0, 0),
            x -> x.record(0, 0), x -> x.neighbour(0, true), x -> x.count(10)};
        for (int i = 0; i < calls.length; i++) {
            RosetteGantry x = new RosetteGantry();
            x.addRosette(5, true, 120, 200);
            calls[i].on(x);
            DUE.is("HISTORY: call " + i + " is not recorded", x.count(10), 1);
        }
        RosetteGantry full = new RosetteGantry();
        full.addRosette(5, true, 120, 200);
        Due.typeAll(full, "r0,r0,r0,r0,r0,r0,r0,r0,r0,r0");
        full.readJobs();
        full.readJobs();
        DUE.is("HISTORY: refused", full.request(0, 0, 5), REFUSED);
        DUE.is("HISTORY: refused", full.readJobs(), REFUSED);
        DUE.is("HISTORY: a refusal is an error", full.count(10), 3);
    }

    /** An answer of 0 or below is an act's, too, if it is no error and not NONE. */
    private static void numbersThatAreNoErrors() {
        Twins.Run setUp = x -> {
            x.addRosette(500, false, 350, 200);
            x.setOffset(0, 0, -9999);
            x.setStrain(0, -5000, 0, 0);
        };
        TWINS.isAnAct("5: a previous offset below 0", setUp, x -> x.setOffset(0, 0, 0), -9999);
        TWINS.isAnAct("6: a reading below 0", setUp, x -> x.setShunt(0, true), -19999 + 3487);
        TWINS.isAnAct("3: no reading changes", setUp, x -> x.setStrain(0, -5000, 0, -1), 0);
        TWINS.isAnAct("17: restored to no rosettes", x -> {
            x.keep();
            setUp.on(x);
        }, x -> x.restore(), 0);
    }

    private static void snapshotIsEmptyAtFirst() {
        TWINS.changesNothing("17: no snapshot", x -> { }, x -> x.restore(), NONE);
        TWINS.changesNothing("17: no snapshot", RICH, x -> x.restore(), NONE);
        RosetteGantry x = Twins.made(RICH);
        x.undo();
        DUE.is("17: undo makes none", x.restore(), NONE);
    }

    private static void snapshotOfNothing() {
        RosetteGantry x = new RosetteGantry();
        DUE.is("16: no rosettes", x.keep(), 0);
        DUE.is("17: a snapshot without rosettes is one", x.restore(), 0);
        DUE.is("17: recorded", x.count(10), 1);
        for (int i = 0; i < 8; i++) {
            x.addRosette(i, true, 120, 200);
        }
        DUE.is("16: eight rosettes", x.keep(), 8);
        x.undo();
        DUE.is("17: eight rosettes then", x.restore(), 8);
    }

    private static void snapshotIsReplaced() {
        RosetteGantry x = new RosetteGantry();
        x.setSize(50);
        x.keep();
        x.setSize(60);
        x.keep();
        x.setSize(70);
        DUE.is("17: restore", x.restore(), 0);
        DUE.is("16: in place of the one that was", x.count(7), 60);
        x.undo();
        x.undo();
        x.undo();
        DUE.is("16: there is but one", x.restore(), 0);
        DUE.is("16: the later one", x.count(7), 60);
    }

    private static void snapshotStays() {
        RosetteGantry x = Twins.made(RICH);
        x.keep();
        for (int i = 0; i < 7; i++) {
            x.setOffset(0, 0, i + 1);
            x.cancel(1);
            x.request(1, 0, 9);
            x.next();
            x.setSize(70 + i);
            DUE.is("17: restored again", x.restore(), 2);
            DUE.is("17: the offset of the snapshot", x.gauge(0, 0, 0), 0);
            DUE.is("17: the size", x.count(7), 60);
            DUE.is("17: the jobs", x.count(1), 2);
            DUE.is("17: the records", x.count(8), 3);
        }
    }

    private static void restoreIsAnAct() {
        Twins.Run kept = x -> {
            RICH.on(x);
            x.keep();
        };
        TWINS.isAnAct("17: also if nothing changes by it", kept, x -> x.restore(), 2);
        Twins.Run changed = x -> {
            kept.on(x);
            x.addRosette(900, true, 120, 180);
            x.workOff();
        };
        TWINS.isAnAct("17: with all that has changed", changed, x -> x.restore(), 2);
    }

    private static void stateIsNoReasonTextHistoryOrSnapshot() {
        RosetteGantry x = new RosetteGantry();
        x.addRosette(5, true, 120, 200);
        x.keep();
        x.setSize(50);
        x.type('r');
        x.addRosette(5, true, 120, 200);
        DUE.is("17: restore", x.restore(), 1);
        DUE.is("HISTORY: the text stays", x.count(11), 1);
        DUE.is("HISTORY: the reason stays", x.count(9), 6);
        DUE.is("HISTORY: the history goes on", x.count(10), 3);
        x.keep();
        x.type('0');
        DUE.is("15: undo", x.undo(), 2);
        DUE.is("HISTORY: the text stays", x.count(11), 2);
        DUE.is("HISTORY: the reason stays", x.count(9), 6);
        DUE.is("15: the size", x.count(7), 50);
        DUE.is("HISTORY: the snapshot stays", x.restore(), 1);
        DUE.is("16: that of the later keep", x.count(7), 100);
    }

    private static void stateIsAllElse() {
        Twins.Run before = RICH;
        Twins.Run after = x -> {
            RICH.on(x);
            x.keep();
            x.setStrain(0, -1, -2, -3);
            x.setStrain(1, -1, -2, -3);
            x.setLeads(0, 1);
            x.setLeads(1, 2);
            x.setOffset(0, 1, -1);
            x.setOffset(1, 1, -2);
            x.setShunt(0, true);
            x.setShunt(1, false);
            x.setSize(444);
            x.workOff();
            x.request(1, 1, 3);
            x.request(2, 1, 2);
            x.workOff();
            x.addRosette(1000, true, 120, 180);
            x.request(0, 2, 5);
            x.restore();
        };
        RosetteGantry one = Twins.made(before);
        RosetteGantry other = Twins.made(after);
        DUE.holds("17: all is as it was kept", Due.whole(one).equals(Due.whole(other)));
    }

    private static void upTo512Calls() {
        RosetteGantry x = new RosetteGantry();
        int calls = 0;
        DUE.is("call " + calls, x.addRosette(1000, false, 350, 200), 0);
        calls++;
        DUE.is("call " + calls, x.addRosette(0, true, 120, 200), 1);
        calls++;
        for (int i = 0; calls <= 505; i++) {
            DUE.is("call " + calls, x.request(i % 3, i % 2, 9), i);
            DUE.is("call " + (calls + 1), x.next(), i);
            calls += 2;
        }
        int jobs = (calls - 2) / 2;
        // The last job was for the rosette 1, at 0.
        int[] due = {2, 0, jobs, jobs, 0, 0};
        for (int what = 0; what < due.length; what++) {
            DUE.is("call " + calls, x.count(what), due[what]);
            calls++;
        }
        DUE.is("the call 512", calls, 512);
    }
}
