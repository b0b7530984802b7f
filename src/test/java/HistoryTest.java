/** Promises 15 to 17: undo, keep, restore. */
public final class HistoryTest {
    private static final int UNKNOWN = -1000001;
    private static final int NONE = -1000004;
    private static final Due DUE = new Due("HistoryTest");

    public static void main(String[] args) {
        undo();
        undoOfEachAct();
        undoLeavesWhatIsNoState();
        undoOfZerosAndGains();
        keepAndRestore();
        restoreBringsBackAnotherRosette();
        restoreIsAnAct();
        DUE.end();
    }

    private static void undo() {
        RosetteGantry x = new RosetteGantry();
        DUE.is("15: empty", x.undo(), NONE);
        x.addRosette(10, false, 350, 200);
        for (int i = 1; i <= 7; i++) {
            x.setLeads(0, i);
            DUE.is("15: at most five", x.count(10), Math.min(i + 1, 5));
        }
        for (int left = 4; left >= 0; left--) {
            DUE.is("15: undo()", x.undo(), left);
            DUE.is("15: the leads", x.rosette(0, 4), left + 2);
        }
        DUE.is("15: the older ones are dropped", x.undo(), NONE);
        DUE.is("15: NONE changes nothing", x.rosette(0, 4), 2);
        x.setLeads(0, 9);
        DUE.is("15: one again", x.undo(), 0);
        DUE.is("15: the leads", x.rosette(0, 4), 2);
    }

    private static void undoOfEachAct() {
        RosetteGantry x = new RosetteGantry();
        x.addRosette(10, false, 350, 200);
        x.addRosette(700, true, 120, 240);
        x.setShunt(1, true);
        x.request(1, 1, 5);
        x.request(2, 0, 7);
        x.workOff();
        x.request(0, 0, 1);
        x.request(0, 1, 2);
        Due.typeAll(x, "r0,b1!9");
        x.keep();
        for (int act = 0; act < 12; act++) {
            String before = Due.whole(x);
            DUE.holds("15: act " + act + " is no error", doAct(x, act) >= -30000);
            DUE.holds("15: act " + act + " changes the state", act == 11 || !Due.whole(x).equals(before));
            DUE.is("15: act " + act + " is recorded", x.count(10), 5);
            DUE.is("15: undo of act " + act, x.undo(), 4);
            DUE.holds("15: all is as before act " + act, Due.whole(x).equals(before));
            x.setSize(200 + act);
        }
    }

    private static int doAct(RosetteGantry x, int act) {
        switch (act) {
            case 0: return x.addRosette(500, true, 350, 180);
            case 1: return x.setStrain(1, 1, -2, 3);
            case 2: return x.setLeads(1, 4);
            case 3: return x.setOffset(1, 2, 5);
            case 4: return x.setShunt(1, false);
            case 5: return x.setSize(77);
            case 6: return x.request(0, 0, 0);
            case 7: return x.cancel(1);
            case 8: return x.next();
            case 9: return x.workOff();
            case 10: return x.readJobs();
            default: return x.restore();
        }
    }

    private static void undoLeavesWhatIsNoState() {
        RosetteGantry x = new RosetteGantry();
        x.addRosette(10, false, 350, 200);
        x.keep();
        x.setLeads(0, 5);
        x.keep();
        x.type('r');
        x.addRosette(10, false, 350, 200);
        DUE.is("15: the reason", x.count(9), 6);
        DUE.is("15: keep, type and a refusal are not recorded", x.count(10), 2);
        DUE.is("15: undo()", x.undo(), 1);
        DUE.is("15: the reason stays", x.count(9), 6);
        DUE.is("15: the text stays", x.count(11), 1);
        DUE.is("15: the leads", x.rosette(0, 4), 0);
        DUE.is("15: the snapshot stays", x.restore(), 1);
        DUE.is("15: the leads of the snapshot", x.rosette(0, 4), 5);
        x.undo();
        x.undo();
        DUE.is("15: nothing is there", x.rosette(0, 4), UNKNOWN);
        DUE.is("15: the history is empty", x.count(10), 0);
        DUE.is("15: but the snapshot is there", x.restore(), 1);
    }

    private static void undoOfZerosAndGains() {
        RosetteGantry x = new RosetteGantry();
        x.addRosette(10, false, 350, 200);
        x.setLeads(0, 10000);
        x.setStrain(0, 100, 200, 300);
        x.request(1, 0, 5);
        x.request(2, 0, 5);
        DUE.is("15: balance and check", x.workOff(), 2);
        int[] zeros = {194, 583, 388};
        for (int gauge = 0; gauge < 3; gauge++) {
            DUE.is("15: zero", x.gauge(0, gauge, 4), zeros[gauge]);
            DUE.is("15: gain", x.gauge(0, gauge, 5), 1028);
        }
        String after = Due.whole(x);
        x.keep();
        x.undo();
        for (int gauge = 0; gauge < 3; gauge++) {
            DUE.is("15: zero as before", x.gauge(0, gauge, 4), 0);
            DUE.is("15: gain as before", x.gauge(0, gauge, 5), 1000);
        }
        x.restore();
        DUE.holds("17: zeros and gains come back", Due.whole(x).equals(after));
    }

    private static void restoreBringsBackAnotherRosette() {
        RosetteGantry x = new RosetteGantry();
        x.addRosette(10, false, 350, 200);
        x.setOffset(0, 0, 5);
        x.keep();
        String kept = Due.whole(x);
        x.undo();
        x.undo();
        x.addRosette(990, true, 120, 240);
        x.setStrain(0, 1, 2, 3);
        String other = Due.whole(x);
        x.restore();
        DUE.holds("17: the rosette of the snapshot", Due.whole(x).equals(kept));
        x.undo();
        DUE.holds("15: the other one", Due.whole(x).equals(other));
    }

    private static void keepAndRestore() {
        RosetteGantry x = new RosetteGantry();
        DUE.is("17: no snapshot", x.restore(), NONE);
        DUE.is("17: not recorded", x.count(10), 0);
        DUE.is("16: none there", x.keep(), 0);
        DUE.is("16: no act", x.count(10), 0);
        x.addRosette(10, false, 350, 200);
        DUE.is("17: the empty one", x.restore(), 0);
        DUE.is("17: nothing is there", x.count(0), 0);
        x.addRosette(10, false, 350, 200);
        x.addRosette(20, true, 120, 200);
        x.setOffset(1, 1, 300);
        x.request(1, 1, 4);
        x.next();
        x.request(0, 0, 4);
        DUE.is("16: two there", x.keep(), 2);
        String kept = Due.whole(x);
        x.setOffset(1, 1, 100);
        x.workOff();
        x.setSize(400);
        x.addRosette(30, true, 120, 200);
        DUE.is("17: two then", x.restore(), 2);
        DUE.holds("17: all is as it was kept", Due.whole(x).equals(kept));
        x.setSize(50);
        DUE.is("17: the snapshot stays", x.restore(), 2);
        DUE.holds("17: all is as it was kept", Due.whole(x).equals(kept));
        x.setSize(60);
        x.keep();
        x.setSize(70);
        x.restore();
        DUE.is("16: in place of the one that was", x.count(7), 60);
    }

    private static void restoreIsAnAct() {
        RosetteGantry x = new RosetteGantry();
        x.addRosette(10, false, 350, 200);
        x.keep();
        x.type('r');
        x.setLeads(0, 8);
        x.addRosette(10, false, 350, 200);
        DUE.is("17: restore()", x.restore(), 1);
        DUE.is("17: recorded", x.count(10), 3);
        DUE.is("17: the text stays", x.count(11), 1);
        DUE.is("17: the reason stays", x.count(9), 6);
        DUE.is("17: the leads", x.rosette(0, 4), 0);
        DUE.is("17: undo()", x.undo(), 2);
        DUE.is("17: the leads before", x.rosette(0, 4), 8);
        DUE.is("17: also if nothing changes", x.keep(), 1);
        x.restore();
        DUE.is("17: recorded", x.count(10), 3);
    }
}
