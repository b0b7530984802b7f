/** Promises 1 to 7: a new object, addRosette, setStrain, setLeads, setOffset, setShunt, setSize. */
public final class RosettesTest {
    private static final int UNKNOWN = -1000001;
    private static final int BAD_VALUE = -1000002;
    private static final int REFUSED = -1000003;
    private static final int NONE = -1000004;
    private static final Due DUE = new Due("RosettesTest");

    public static void main(String[] args) {
        newObject();
        addRosette();
        addRosetteRefused();
        addRosetteStartsAfresh();
        setStrain();
        setStrainReadings();
        setLeads();
        setOffset();
        setShunt();
        setSize();
        DUE.end();
    }

    private static void newObject() {
        RosetteGantry x = new RosetteGantry();
        for (int what = 0; what <= 11; what++) {
            DUE.is("1: count(" + what + ")", x.count(what), what == 7 ? 100 : 0);
        }
        DUE.is("1: rosette(0, 0)", x.rosette(0, 0), UNKNOWN);
        DUE.is("1: next()", x.next(), NONE);
        DUE.is("1: undo()", x.undo(), NONE);
        DUE.is("1: restore()", x.restore(), NONE);
        DUE.is("1: job(0, 0)", x.job(0, 0), NONE);
        DUE.is("1: record(0, 0)", x.record(0, 0), NONE);
        DUE.is("1: UNKNOWN", RosetteGantry.UNKNOWN, UNKNOWN);
        DUE.is("1: BAD_VALUE", RosetteGantry.BAD_VALUE, BAD_VALUE);
        DUE.is("1: REFUSED", RosetteGantry.REFUSED, REFUSED);
        DUE.is("1: NONE", RosetteGantry.NONE, NONE);
    }

    private static void addRosette() {
        RosetteGantry x = new RosetteGantry();
        DUE.is("2: place -1", x.addRosette(-1, false, 120, 200), BAD_VALUE);
        DUE.is("2: place 1001", x.addRosette(1001, false, 120, 200), BAD_VALUE);
        DUE.is("2: place least", x.addRosette(Integer.MIN_VALUE, false, 120, 200), BAD_VALUE);
        int[] wrong = {0, 119, 121, 349, 351, -120, -350, 240};
        for (int resistance : wrong) {
            DUE.is("2: resistance " + resistance, x.addRosette(5, true, resistance, 200), BAD_VALUE);
        }
        DUE.is("2: factor 179", x.addRosette(5, true, 350, 179), BAD_VALUE);
        DUE.is("2: factor 241", x.addRosette(5, true, 350, 241), BAD_VALUE);
        DUE.is("2: nothing is there", x.count(0), 0);
        DUE.is("2: nothing is recorded", x.count(10), 0);
        DUE.is("2: an error sets no reason", x.count(9), 0);
        DUE.is("2: place 0", x.addRosette(0, false, 120, 180), 0);
        DUE.is("2: place 1000", x.addRosette(1000, true, 350, 240), 1);
        DUE.is("2: it is an act", x.count(10), 2);
        int[] first = {0, 0, 120, 180, 0, 0, 0, 0, 0};
        int[] second = {1000, 1, 350, 240, 0, 0, 0, 0, 0};
        for (int what = 0; what < first.length; what++) {
            DUE.is("2: rosette(0, " + what + ")", x.rosette(0, what), first[what]);
            DUE.is("2: rosette(1, " + what + ")", x.rosette(1, what), second[what]);
        }
        DUE.is("2: its gain", x.gauge(1, 2, 5), 1000);
        DUE.is("2: undo()", x.undo(), 1);
        DUE.is("2: it is gone", x.rosette(1, 0), UNKNOWN);
    }

    private static void addRosetteRefused() {
        RosetteGantry x = new RosetteGantry();
        for (int i = 0; i < 7; i++) {
            DUE.is("2: number", x.addRosette(10 * i, i % 2 == 0, 120, 200), i);
        }
        DUE.is("2: a taken place", x.addRosette(30, true, 120, 200), REFUSED);
        DUE.is("2: reason 6", x.count(9), 6);
        DUE.is("2: a wrong value at a taken place", x.addRosette(30, true, 120, 0), BAD_VALUE);
        DUE.is("2: the eighth", x.addRosette(70, false, 120, 200), 7);
        DUE.is("2: the reason stays", x.count(9), 6);
        DUE.is("2: the ninth", x.addRosette(80, false, 120, 200), REFUSED);
        DUE.is("2: reason 1", x.count(9), 1);
        DUE.is("2: the ninth with a wrong value", x.addRosette(80, false, 120, 241), BAD_VALUE);
        DUE.is("2: undo()", x.undo(), 4);
        DUE.is("2: taken again", x.addRosette(60, false, 120, 200), REFUSED);
        DUE.is("2: reason 6 again", x.count(9), 6);
        DUE.is("2: the eighth again", x.addRosette(70, false, 120, 200), 7);
        DUE.is("2: full and taken", x.addRosette(70, false, 120, 200), REFUSED);
        DUE.is("2: room is asked first", x.count(9), 1);
        DUE.is("2: 8 are there", x.count(0), 8);
        DUE.is("2: a refusal is not recorded", x.count(10), 5);
    }

    private static void addRosetteStartsAfresh() {
        RosetteGantry x = new RosetteGantry();
        x.addRosette(100, true, 350, 200);
        x.setLeads(0, 10000);
        x.setStrain(0, 1, 2, 3);
        x.setOffset(0, 1, 77);
        x.setShunt(0, true);
        x.setShunt(0, false);
        x.request(2, 0, 5);
        x.next();
        x.request(1, 0, 5);
        x.next();
        DUE.is("2: its zero", x.gauge(0, 1, 4) != 0 ? 1 : 0, 1);
        DUE.is("2: its gain", x.gauge(0, 1, 5), 1028);
        DUE.is("2: another one", x.addRosette(200, false, 120, 180), 1);
        for (int gauge = 0; gauge < 3; gauge++) {
            DUE.is("2: offset", x.gauge(1, gauge, 0), 0);
            DUE.is("2: zero", x.gauge(1, gauge, 4), 0);
            DUE.is("2: gain", x.gauge(1, gauge, 5), 1000);
        }
        x.setLeads(1, 1);
        x.setOffset(1, 0, 9);
        x.setShunt(1, true);
        x.undo();
        x.undo();
        x.undo();
        x.undo();
        DUE.is("2: it is gone", x.count(0), 1);
        DUE.is("2: it comes anew", x.addRosette(300, true, 350, 240), 1);
        DUE.is("2: its leads", x.rosette(1, 4), 0);
        DUE.is("2: its shunt", x.rosette(1, 8), 0);
        DUE.is("2: its offset", x.gauge(1, 0, 0), 0);
    }

    private static void setStrain() {
        RosetteGantry x = new RosetteGantry();
        DUE.is("3: none there", x.setStrain(0, 0, 0, 0), UNKNOWN);
        x.addRosette(100, false, 350, 200);
        DUE.is("3: rosette -1", x.setStrain(-1, 1, 1, 1), UNKNOWN);
        DUE.is("3: rosette 1, asked ahead of the values", x.setStrain(1, 5001, 1, 1), UNKNOWN);
        DUE.is("3: x 5001", x.setStrain(0, 5001, 0, 0), BAD_VALUE);
        DUE.is("3: x -5001", x.setStrain(0, -5001, 0, 0), BAD_VALUE);
        DUE.is("3: y 5001", x.setStrain(0, 0, 5001, 0), BAD_VALUE);
        DUE.is("3: y -5001", x.setStrain(0, 0, -5001, 0), BAD_VALUE);
        DUE.is("3: g 5001", x.setStrain(0, 0, 0, 5001), BAD_VALUE);
        DUE.is("3: g -5001", x.setStrain(0, 0, 0, -5001), BAD_VALUE);
        DUE.is("3: so already", x.setStrain(0, 0, 0, 0), NONE);
        DUE.is("3: nothing is recorded", x.count(10), 1);
        DUE.is("3: greatest", x.setStrain(0, 5000, 5000, 5000), 3);
        DUE.is("3: least", x.setStrain(0, -5000, -5000, -5000), 3);
        DUE.is("3: x", x.rosette(0, 5), -5000);
        DUE.is("3: only x", x.setStrain(0, 1000, -5000, -5000), 2);
        DUE.is("3: only y", x.setStrain(0, 1000, -200, -5000), 2);
        DUE.is("3: only g", x.setStrain(0, 1000, -200, 600), 1);
        DUE.is("3: x is told", x.rosette(0, 5), 1000);
        DUE.is("3: y is told", x.rosette(0, 6), -200);
        DUE.is("3: g is told", x.rosette(0, 7), 600);
        DUE.is("3: undo()", x.undo(), 4);
        DUE.is("3: g as before", x.rosette(0, 7), -5000);
    }

    private static void setStrainReadings() {
        RosetteGantry x = new RosetteGantry();
        x.addRosette(100, false, 350, 200);
        // (0 + 0 + 1) / 2 is 0: the strains change, the readings do not.
        DUE.is("3: no reading changes", x.setStrain(0, 0, 0, 1), 0);
        DUE.is("3: an act all the same", x.count(10), 2);
        DUE.is("3: g is told", x.rosette(0, 7), 1);
        // Beyond 30000 the readings stay, though the signals change.
        x.setStrain(0, 5000, 5000, 5000);
        x.setSize(20);
        x.setOffset(0, 0, 9999);
        x.setOffset(0, 1, 9999);
        x.setShunt(0, true);
        DUE.is("3: signal beyond", x.gauge(0, 0, 2), 37198);
        DUE.is("3: overloaded readings stay", x.setStrain(0, 4999, 5000, 5000), 0);
        DUE.is("3: signal", x.gauge(0, 0, 2), 37196);
        DUE.is("3: signal 1", x.gauge(0, 1, 2), 42196);
        DUE.is("3: one is within", x.setStrain(0, 4999, 4999, 5000), 1);
    }

    private static void setLeads() {
        RosetteGantry x = new RosetteGantry();
        DUE.is("4: none there", x.setLeads(0, 1), UNKNOWN);
        x.addRosette(100, false, 120, 200);
        DUE.is("4: unknown is asked first", x.setLeads(1, -1), UNKNOWN);
        DUE.is("4: rosette -1", x.setLeads(-1, 1), UNKNOWN);
        DUE.is("4: -1", x.setLeads(0, -1), BAD_VALUE);
        DUE.is("4: 20001", x.setLeads(0, 20001), BAD_VALUE);
        DUE.is("4: so already", x.setLeads(0, 0), NONE);
        DUE.is("4: 20000", x.setLeads(0, 20000), 0);
        DUE.is("4: so already", x.setLeads(0, 20000), NONE);
        DUE.is("4: 1", x.setLeads(0, 1), 20000);
        DUE.is("4: told", x.rosette(0, 4), 1);
        DUE.is("4: two acts", x.count(10), 3);
        DUE.is("4: undo()", x.undo(), 2);
        DUE.is("4: told", x.rosette(0, 4), 20000);
    }

    private static void setOffset() {
        RosetteGantry x = new RosetteGantry();
        DUE.is("5: none there", x.setOffset(0, 0, 1), UNKNOWN);
        x.addRosette(100, false, 120, 200);
        DUE.is("5: gauge 3 is asked first", x.setOffset(0, 3, 10000), UNKNOWN);
        DUE.is("5: gauge -1", x.setOffset(0, -1, 1), UNKNOWN);
        DUE.is("5: rosette 1", x.setOffset(1, 0, 10000), UNKNOWN);
        DUE.is("5: rosette -1", x.setOffset(-1, 0, 1), UNKNOWN);
        DUE.is("5: 10000", x.setOffset(0, 0, 10000), BAD_VALUE);
        DUE.is("5: -10000", x.setOffset(0, 0, -10000), BAD_VALUE);
        DUE.is("5: so already", x.setOffset(0, 2, 0), NONE);
        DUE.is("5: 9999", x.setOffset(0, 2, 9999), 0);
        DUE.is("5: -9999", x.setOffset(0, 2, -9999), 9999);
        DUE.is("5: so already", x.setOffset(0, 2, -9999), NONE);
        DUE.is("5: of this gauge", x.gauge(0, 2, 0), -9999);
        DUE.is("5: of no other gauge", x.gauge(0, 1, 0), 0);
        DUE.is("5: of no other gauge", x.gauge(0, 0, 0), 0);
        DUE.is("5: two acts", x.count(10), 3);
        DUE.is("5: undo()", x.undo(), 2);
        DUE.is("5: as before", x.gauge(0, 2, 0), 9999);
    }

    private static void setShunt() {
        RosetteGantry x = new RosetteGantry();
        DUE.is("6: none there", x.setShunt(0, true), UNKNOWN);
        x.addRosette(100, false, 350, 200);
        x.addRosette(200, true, 120, 200);
        DUE.is("6: rosette 2", x.setShunt(2, false), UNKNOWN);
        DUE.is("6: rosette -1", x.setShunt(-1, true), UNKNOWN);
        DUE.is("6: off already", x.setShunt(0, false), NONE);
        x.setStrain(0, 1000, 0, 0);
        x.setOffset(0, 0, -7);
        DUE.is("6: on", x.setShunt(0, true), 2000 - 7 + 3487);
        DUE.is("6: on already", x.setShunt(0, true), NONE);
        DUE.is("6: told", x.rosette(0, 8), 1);
        DUE.is("6: not of the other one", x.rosette(1, 8), 0);
        DUE.is("6: several can be on", x.setShunt(1, true), 1198);
        DUE.is("6: still on", x.rosette(0, 8), 1);
        DUE.is("6: off", x.setShunt(0, false), 1993);
        DUE.is("6: the history is full", x.count(10), 5);
        DUE.is("6: undo()", x.undo(), 4);
        DUE.is("6: on again", x.rosette(0, 8), 1);
    }

    private static void setSize() {
        RosetteGantry x = new RosetteGantry();
        DUE.is("7: 19", x.setSize(19), BAD_VALUE);
        DUE.is("7: 501", x.setSize(501), BAD_VALUE);
        DUE.is("7: 100 already", x.setSize(100), NONE);
        DUE.is("7: no act", x.count(10), 0);
        DUE.is("7: 20", x.setSize(20), 100);
        x.addRosette(100, false, 350, 200);
        x.addRosette(200, true, 120, 200);
        DUE.is("7: 350 at 20", x.rosette(0, 9), 17199);
        DUE.is("7: 120 at 20", x.rosette(1, 9), 5964);
        DUE.is("7: 500", x.setSize(500), 20);
        DUE.is("7: 500 already", x.setSize(500), NONE);
        DUE.is("7: 350 at 500", x.rosette(0, 9), 699);
        DUE.is("7: 120 at 500", x.rosette(1, 9), 239);
        DUE.is("7: told", x.count(7), 500);
        DUE.is("7: undo()", x.undo(), 3);
        DUE.is("7: as before", x.count(7), 20);
    }
}
