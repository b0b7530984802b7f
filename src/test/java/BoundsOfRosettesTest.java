/** Each sentence of "Terms" (division to signals) and of the promises 1 to 7 that names a boundary case, by itself. */
public final class BoundsOfRosettesTest {
    private static final int UNKNOWN = -1000001;
    private static final int BAD_VALUE = -1000002;
    private static final int REFUSED = -1000003;
    private static final int NONE = -1000004;
    private static final int LEAST = Integer.MIN_VALUE;
    private static final int MOST = Integer.MAX_VALUE;
    private static final Due DUE = new Due("BoundsOfRosettesTest");
    private static final Twins TWINS = new Twins(DUE);

    public static void main(String[] args) {
        newObjectIsEmpty();
        divisionTowards0();
        eachDivisionByItself();
        atMostEightRosettes();
        eachAtItsOwnPlace();
        valuesOfANewRosette();
        addRosetteOrderOfChecks();
        firstNumbers();
        strainLimits();
        strainSoAlready();
        strainReadingsThatChange();
        readingsAreComparedWithItsOwn();
        leadsLimits();
        leadsSoAlready();
        offsetLimits();
        offsetSoAlready();
        gaugesAreThree();
        shuntSoAlready();
        shuntReadingIsLimited();
        severalShuntsCanBeOn();
        sizeLimits();
        sizeSoAlready();
        shuntValueOfEachSize();
        signalIsWeakened();
        readingIsLimited();
        gainIsTheLatest();
        unknownIsAskedFirst();
        DUE.end();
    }

    /** One rosette, right, of 350 ohms and the factor 200: with size 100 its shunt value is 3487. */
    private static RosetteGantry one() {
        RosetteGantry x = new RosetteGantry();
        x.addRosette(500, false, 350, 200);
        return x;
    }

    private static RosetteGantry oneDelta() {
        RosetteGantry x = new RosetteGantry();
        x.addRosette(500, true, 350, 200);
        return x;
    }

    private static void job(RosetteGantry x, int kind) {
        x.request(kind, 0, 5);
        x.next();
    }

    private static void newObjectIsEmpty() {
        RosetteGantry x = new RosetteGantry();
        for (int r = -1; r <= 8; r++) {
            DUE.is("1: rosette " + r, x.rosette(r, 0), UNKNOWN);
            DUE.is("1: gauge of " + r, x.gauge(r, 0, 0), UNKNOWN);
            DUE.is("1: principal of " + r, x.principal(r, 0), UNKNOWN);
            DUE.is("1: pull of " + r, x.pull(r, 0), UNKNOWN);
            DUE.is("1: strain of " + r, x.setStrain(r, 1, 1, 1), UNKNOWN);
            DUE.is("1: leads of " + r, x.setLeads(r, 1), UNKNOWN);
            DUE.is("1: offset of " + r, x.setOffset(r, 0, 1), UNKNOWN);
            DUE.is("1: shunt of " + r, x.setShunt(r, true), UNKNOWN);
            DUE.is("1: job for " + r, x.request(0, r, 5), UNKNOWN);
            DUE.is("1: cancel of " + r, x.cancel(r), UNKNOWN);
        }
        DUE.is("1: no job", x.next(), NONE);
        DUE.is("1: no jobs", x.workOff(), NONE);
        DUE.is("1: no state", x.undo(), NONE);
        DUE.is("1: no snapshot", x.restore(), NONE);
        DUE.is("1: no job to tell", x.job(0, 4), NONE);
        DUE.is("1: no record", x.record(0, 0), NONE);
        DUE.is("1: none above", x.neighbour(0, true), NONE);
        DUE.is("1: none below", x.neighbour(1000, false), NONE);
        DUE.is("1: an empty text", x.clearText(), 0);
        DUE.is("1: which ends too early", x.readJobs(), -100);
        DUE.is("1: the size of the shunt at first", x.setSize(100), NONE);
        DUE.is("1: a snapshot of nothing", x.keep(), 0);
        for (int what = 0; what <= 11; what++) {
            DUE.is("1: count " + what, x.count(what), what == 7 ? 100 : 0);
        }
        RosetteGantry y = new RosetteGantry();
        y.addRosette(1, true, 120, 200);
        y.type('r');
        DUE.is("1: objects share nothing", x.count(0) + x.count(11) + x.count(10), 0);
    }

    private static void divisionTowards0() {
        RosetteGantry x = one();
        x.setStrain(0, 0, 0, -1);
        DUE.is("DIVISION: -1 / 2", x.gauge(0, 1, 1), 0);
        x.setStrain(0, 0, 0, -3);
        DUE.is("DIVISION: -3 / 2", x.gauge(0, 1, 1), -1);
        x.setStrain(0, -1, 0, 0);
        DUE.is("DIVISION: the mean -1 / 2", x.principal(0, 7), 0);
        RosetteGantry d = oneDelta();
        int[][] strains = {
            {-1, 0, 0}, {-3, 0, 0}, {-4, 0, 0}, {-5, 0, 0}, {5, 0, 0}, {1, -2, 0}, {0, -3, 0}, {0, 3, 0}};
        int[] middles = {0, 0, -1, -1, 1, -1, -2, 2};
        for (int i = 0; i < strains.length; i++) {
            d.setStrain(0, strains[i][0], strains[i][1], strains[i][2]);
            DUE.is("DIVISION: (x + 3 * y) / 4", d.gauge(0, 1, 1), middles[i]);
        }
        int[] sheared = {-2, -3, 2, 3, -4999, 4999};
        int[] out = {0, -1, 0, 1, -2164, 2164};
        for (int i = 0; i < sheared.length; i++) {
            d.setStrain(0, 0, 0, sheared[i]);
            DUE.is("DIVISION: g * 433 / 1000", d.gauge(0, 1, 1), out[i]);
            DUE.is("DIVISION: m - s", d.gauge(0, 2, 1), -out[i]);
        }
        // The corrected strains 1, 0 and 0 make (0 + 0 - 1) / 3; 10, -1 and -1 make (-2 - 2 - 10) / 3.
        RosetteGantry c = oneDelta();
        c.setOffset(0, 0, 2);
        DUE.is("DIVISION: y of 1, 0, 0", c.principal(0, 5), 0);
        c.setOffset(0, 0, 20);
        c.setOffset(0, 1, -2);
        DUE.is("DIVISION: g of -1 and 0", c.principal(0, 6), -1);
        c.setOffset(0, 2, -2);
        DUE.is("DIVISION: y of 10, -1, -1", c.principal(0, 5), -4);
        c.setOffset(0, 1, -14);
        DUE.is("DIVISION: g of -7 and -1", c.principal(0, 6), -6);
        c.setOffset(0, 1, -16);
        DUE.is("DIVISION: g of -8 and -1", c.principal(0, 6), -8);
    }

    private static void eachDivisionByItself() {
        RosetteGantry x = new RosetteGantry();
        x.addRosette(0, false, 120, 181);
        x.setLeads(0, 20000);
        // strain * 181 / 100 is 1 for 1; 1 and 1 come out as 0 and 0, and the shunt value 1198 as 1026.
        x.setStrain(0, 1, 0, 0);
        x.setOffset(0, 0, 1);
        DUE.is("DIVISION: each part by itself", x.gauge(0, 0, 2), 0);
        DUE.is("DIVISION: and the shunt value, too", x.setShunt(0, true), 1026);
        x.setShunt(0, false);
        // 5 * 181 / 100 is 9, which comes out as 7; 905 / 100 * 6 / 7 at once would be 7.75.
        x.setStrain(0, 5, 0, 0);
        x.setOffset(0, 0, 0);
        DUE.is("DIVISION: in the order", x.gauge(0, 0, 2), 7);
        DUE.is("DIVISION: 7 * 1000 / 1000 * 100 / 181", x.gauge(0, 0, 6), 3);
        job(x, 2);
        DUE.is("DIVISION: 1198 * 1000 / 1026", x.gauge(0, 0, 5), 1167);
        // 7 * 1167 / 1000 is 8, then 800 / 181; at once it would be 816 / 181.
        DUE.is("DIVISION: 8 * 100 / 181", x.gauge(0, 0, 6), 4);
        x.setOffset(0, 0, 5);
        DUE.is("DIVISION: 7 + 4", x.gauge(0, 0, 2), 11);
        // 11 * 1167 / 1000 is 12, then 1200 / 181; at once it would be 1283 / 181.
        DUE.is("DIVISION: 12 * 100 / 181", x.gauge(0, 0, 6), 6);
        // The radius is rounded by itself, and the mean, too: 1 / 2 + 1 * 10000 / 20000 is 0, not 1.
        RosetteGantry y = one();
        y.setStrain(0, 1, 0, 1);
        DUE.is("DIVISION: x", y.principal(0, 4), 1);
        DUE.is("DIVISION: the mean and the radius", y.principal(0, 0), 0);
    }

    private static void atMostEightRosettes() {
        RosetteGantry x = new RosetteGantry();
        for (int i = 0; i < 8; i++) {
            DUE.is("2: numbered from 0 in their order", x.addRosette(900 - 100 * i, i % 2 == 1, 120, 200), i);
        }
        DUE.is("2: the ninth", x.addRosette(1000, false, 120, 200), REFUSED);
        DUE.is("2: there is no more room", x.count(9), 1);
        DUE.is("2: eight are there", x.count(0), 8);
        for (int i = 0; i < 8; i++) {
            DUE.is("2: the place of " + i, x.rosette(i, 0), 900 - 100 * i);
        }
        DUE.is("2: the last one can be set", x.setLeads(7, 4), 0);
        DUE.is("2: there is no rosette 8", x.rosette(8, 0), UNKNOWN);
        x.undo();
        x.undo();
        DUE.is("2: room again", x.addRosette(1000, false, 120, 200), 7);
        DUE.is("2: but for one", x.addRosette(999, false, 120, 200), REFUSED);
    }

    private static void eachAtItsOwnPlace() {
        for (int taken = 0; taken < 7; taken++) {
            RosetteGantry x = new RosetteGantry();
            for (int i = 0; i < 7; i++) {
                x.addRosette(i * 10, false, 350, 200);
            }
            DUE.is("2: the place of " + taken, x.addRosette(taken * 10, true, 120, 240), REFUSED);
            DUE.is("2: there is a rosette at this place", x.count(9), 6);
            DUE.is("2: next to it", x.addRosette(taken * 10 + 1, true, 120, 240), 7);
        }
        RosetteGantry x = new RosetteGantry();
        DUE.is("2: the place 0 is free at first", x.addRosette(0, false, 350, 200), 0);
        x.undo();
        DUE.is("2: and is free again", x.addRosette(0, true, 350, 200), 0);
        DUE.is("2: then it is taken", x.addRosette(0, false, 350, 200), REFUSED);
    }

    private static void valuesOfANewRosette() {
        int[] places = {LEAST, -1, 1001, MOST};
        int[] resistances = {LEAST, -350, -120, 0, 119, 121, 235, 349, 351, MOST};
        int[] factors = {LEAST, -200, 0, 179, 241, MOST};
        for (int place : places) {
            TWINS.changesNothing("2: place " + place, x -> { }, x -> x.addRosette(place, false, 120, 200), BAD_VALUE);
        }
        for (int ohms : resistances) {
            TWINS.changesNothing("2: resistance " + ohms, x -> { }, x -> x.addRosette(9, true, ohms, 200), BAD_VALUE);
        }
        for (int factor : factors) {
            TWINS.changesNothing("2: factor " + factor, x -> { }, x -> x.addRosette(9, true, 350, factor), BAD_VALUE);
        }
        int[][] right = {{0, 120, 180}, {1000, 350, 240}, {1, 120, 181}, {999, 350, 239}};
        RosetteGantry x = new RosetteGantry();
        for (int i = 0; i < right.length; i++) {
            DUE.is("2: within", x.addRosette(right[i][0], i % 2 == 1, right[i][1], right[i][2]), i);
            DUE.is("2: its place", x.rosette(i, 0), right[i][0]);
            DUE.is("2: its kind", x.rosette(i, 1), i % 2);
            DUE.is("2: its resistance", x.rosette(i, 2), right[i][1]);
            DUE.is("2: its factor", x.rosette(i, 3), right[i][2]);
        }
        TWINS.isAnAct("2: addRosette", y -> y.addRosette(1, false, 350, 200), y -> y.addRosette(0, true, 120, 180), 1);
    }

    private static void addRosetteOrderOfChecks() {
        Twins.Run full = x -> {
            for (int i = 0; i < 8; i++) {
                x.addRosette(i, true, 120, 200);
            }
        };
        TWINS.changesNothing("2: BAD_VALUE ahead of room", full, x -> x.addRosette(1001, true, 120, 200), BAD_VALUE);
        TWINS.changesNothing("2: BAD_VALUE ahead of the place", full, x -> x.addRosette(3, true, 0, 200), BAD_VALUE);
        TWINS.isRefused("2: room ahead of the place", full, x -> x.addRosette(3, true, 120, 200), 1);
        TWINS.isRefused("2: no room", full, x -> x.addRosette(8, true, 120, 200), 1);
        Twins.Run seven = x -> {
            full.on(x);
            x.undo();
        };
        TWINS.isRefused("2: the place, with room", seven, x -> x.addRosette(6, true, 120, 200), 6);
        TWINS.changesNothing("2: BAD_VALUE ahead of the place", seven, x -> x.addRosette(6, true, 120, 0), BAD_VALUE);
    }

    private static void firstNumbers() {
        RosetteGantry x = new RosetteGantry();
        x.addRosette(5, true, 120, 240);
        int[] due = {5, 1, 120, 240, 0, 0, 0, 0, 0, 1198, 0, 0};
        for (int what = 0; what < due.length; what++) {
            DUE.is("ROSETTES: at first, what " + what, x.rosette(0, what), due[what]);
        }
        int[] gauge = {0, 0, 0, 0, 0, 1000, 0, 1198};
        for (int what = 0; what < gauge.length; what++) {
            for (int i = 0; i < 3; i++) {
                DUE.is("ROSETTES: gauge " + i + " at first, what " + what, x.gauge(0, i, what), gauge[what]);
            }
        }
    }

    private static void strainLimits() {
        int[] wrong = {LEAST, -5001, 5001, MOST};
        Twins.Run setUp = x -> {
            x.addRosette(500, false, 350, 200);
            x.setStrain(0, 1, 2, 3);
        };
        for (int number : wrong) {
            TWINS.changesNothing("3: x " + number, setUp, x -> x.setStrain(0, number, 2, 3), BAD_VALUE);
            TWINS.changesNothing("3: y " + number, setUp, x -> x.setStrain(0, 1, number, 3), BAD_VALUE);
            TWINS.changesNothing("3: g " + number, setUp, x -> x.setStrain(0, 1, 2, number), BAD_VALUE);
        }
        int[][] right = {{5000, 0, 0}, {-5000, 0, 0}, {0, 5000, 0}, {0, -5000, 0}, {0, 0, 5000}, {0, 0, -5000},
            {5000, -5000, 5000}, {-5000, 5000, -5000}};
        int[] changes = {2, 2, 3, 2, 2, 1, 3, 3};
        RosetteGantry x = one();
        for (int i = 0; i < right.length; i++) {
            DUE.is("3: within " + i, x.setStrain(0, right[i][0], right[i][1], right[i][2]), changes[i]);
            for (int what = 0; what < 3; what++) {
                DUE.is("3: told", x.rosette(0, 5 + what), right[i][what]);
            }
        }
        TWINS.isAnAct("3: setStrain", setUp, y -> y.setStrain(0, 5000, -5000, 5000), 3);
    }

    private static void strainSoAlready() {
        Twins.Run setUp = x -> {
            x.addRosette(500, false, 350, 200);
            x.setStrain(0, 10, 20, 30);
        };
        TWINS.changesNothing("3: so already", setUp, x -> x.setStrain(0, 10, 20, 30), NONE);
        TWINS.changesNothing("3: 0 already", x -> x.addRosette(5, true, 120, 200), x -> x.setStrain(0, 0, 0, 0), NONE);
        TWINS.isAnAct("3: but for x", setUp, x -> x.setStrain(0, 12, 20, 30), 2);
        TWINS.isAnAct("3: but for y", setUp, x -> x.setStrain(0, 10, 22, 30), 2);
        TWINS.isAnAct("3: but for g", setUp, x -> x.setStrain(0, 10, 20, 32), 1);
        // (10 + 20 + 31) / 2 is 30 as before: no reading changes, but the strain does, and 0 is no NONE.
        TWINS.isAnAct("3: no reading changes", setUp, x -> x.setStrain(0, 10, 20, 31), 0);
    }

    private static void strainReadingsThatChange() {
        RosetteGantry d = oneDelta();
        DUE.is("3: delta, g alone", d.setStrain(0, 0, 0, 5), 2);
        DUE.is("3: delta, y alone", d.setStrain(0, 0, 40, 5), 2);
        DUE.is("3: delta, x by 1", d.setStrain(0, 1, 40, 5), 1);
        DUE.is("3: delta, x by 4", d.setStrain(0, 5, 40, 5), 3);
        DUE.is("3: delta, g by 1: 4 * 433 / 1000 is 1", d.setStrain(0, 5, 40, 4), 2);
        DUE.is("3: delta, g by 1: 3 * 433 / 1000 is 1, too", d.setStrain(0, 5, 40, 3), 0);
        RosetteGantry x = one();
        x.setSize(20);
        x.setStrain(0, 5000, 5000, 5000);
        x.setOffset(0, 0, 9999);
        x.setOffset(0, 1, 9999);
        x.setOffset(0, 2, 2801);
        x.setShunt(0, true);
        // The signals are 37198, 42198 and 30000.
        DUE.is("3: the signal at the limit", x.gauge(0, 2, 2), 30000);
        DUE.is("3: overloaded readings stay", x.setStrain(0, 4000, 5000, 5000), 0);
        DUE.is("3: one leaves the limit", x.setStrain(0, 4000, 4999, 5000), 1);
        DUE.is("3: and comes to it", x.setStrain(0, 4000, 5000, 4000), 1);
        DUE.is("3: by the signal 30000", x.gauge(0, 2, 2), 30000);
    }

    /** The readings before are those of this rosette as it stood then, whatever was set or told since. */
    private static void readingsAreComparedWithItsOwn() {
        Twins.Run setUp = x -> {
            x.addRosette(0, false, 350, 200);
            x.addRosette(1, true, 120, 240);
            x.setStrain(0, 1000, -2000, 3000);
            x.setStrain(1, 4000, 5000, -5000);
        };
        Twins.Run[] between = {
            x -> { }, x -> x.setOffset(0, 0, 500), x -> x.setLeads(0, 20000), x -> x.setShunt(0, true),
            x -> x.principal(1, 0), x -> x.setSize(20), x -> x.undo(), x -> x.addRosette(2, true, 120, 180)};
        for (int i = 0; i < between.length; i++) {
            RosetteGantry x = Twins.made(setUp);
            between[i].on(x);
            DUE.is("3: g alone, behind " + i, x.setStrain(0, 1000, -2000, 4000), 1);
            x.setStrain(1, 0, 0, 0);
            DUE.is("3: x alone, behind " + i, x.setStrain(0, 0, -2000, 4000), 2);
            x.setShunt(1, true);
            DUE.is("3: none, behind " + i, x.setStrain(0, 0, -2000, 4001), 0);
        }
    }

    private static void leadsLimits() {
        int[] wrong = {LEAST, -1, 20001, MOST};
        Twins.Run setUp = x -> x.addRosette(500, false, 120, 200);
        for (int leads : wrong) {
            TWINS.changesNothing("4: leads " + leads, setUp, x -> x.setLeads(0, leads), BAD_VALUE);
        }
        RosetteGantry x = Twins.made(setUp);
        int[] right = {1, 20000, 19999, 0};
        int before = 0;
        for (int leads : right) {
            DUE.is("4: the previous number", x.setLeads(0, leads), before);
            DUE.is("4: told", x.rosette(0, 4), leads);
            before = leads;
        }
        TWINS.isAnAct("4: setLeads", setUp, y -> y.setLeads(0, 20000), 0);
    }

    private static void leadsSoAlready() {
        Twins.Run setUp = x -> {
            x.addRosette(500, false, 120, 200);
            x.addRosette(501, false, 120, 200);
            x.setLeads(1, 20000);
        };
        TWINS.changesNothing("4: 0 already", setUp, x -> x.setLeads(0, 0), NONE);
        TWINS.changesNothing("4: 20000 already", setUp, x -> x.setLeads(1, 20000), NONE);
        TWINS.isAnAct("4: back to 0", setUp, x -> x.setLeads(1, 0), 20000);
        TWINS.isAnAct("4: of this one alone", setUp, x -> x.setLeads(0, 20000), 0);
    }

    private static void offsetLimits() {
        int[] wrong = {LEAST, -10000, 10000, MOST};
        Twins.Run setUp = x -> x.addRosette(500, false, 120, 200);
        for (int gauge = 0; gauge < 3; gauge++) {
            int i = gauge;
            for (int offset : wrong) {
                TWINS.changesNothing("5: offset " + offset, setUp, x -> x.setOffset(0, i, offset), BAD_VALUE);
            }
            RosetteGantry x = Twins.made(setUp);
            DUE.is("5: the greatest", x.setOffset(0, i, 9999), 0);
            DUE.is("5: the least", x.setOffset(0, i, -9999), 9999);
            DUE.is("5: 0 again", x.setOffset(0, i, 0), -9999);
            TWINS.isAnAct("5: setOffset", setUp, y -> y.setOffset(0, i, -9999), 0);
        }
    }

    private static void offsetSoAlready() {
        Twins.Run setUp = x -> {
            x.addRosette(500, false, 120, 200);
            x.setOffset(0, 1, 9999);
            x.setOffset(0, 2, -9999);
        };
        TWINS.changesNothing("5: 0 already", setUp, x -> x.setOffset(0, 0, 0), NONE);
        TWINS.changesNothing("5: 9999 already", setUp, x -> x.setOffset(0, 1, 9999), NONE);
        TWINS.changesNothing("5: -9999 already", setUp, x -> x.setOffset(0, 2, -9999), NONE);
        TWINS.isAnAct("5: of this gauge alone", setUp, x -> x.setOffset(0, 0, 9999), 0);
        TWINS.isAnAct("5: the opposite", setUp, x -> x.setOffset(0, 1, -9999), 9999);
    }

    private static void gaugesAreThree() {
        int[] wrong = {LEAST, -1, 3, 4, MOST};
        Twins.Run setUp = x -> x.addRosette(500, false, 120, 200);
        for (int gauge : wrong) {
            TWINS.changesNothing("5: gauge " + gauge, setUp, x -> x.setOffset(0, gauge, 5), UNKNOWN);
            TWINS.changesNothing("5: it goes ahead of the offset", setUp, x -> x.setOffset(0, gauge, 10000), UNKNOWN);
            TWINS.changesNothing("5: and of NONE", setUp, x -> x.setOffset(0, gauge, 0), UNKNOWN);
        }
        RosetteGantry x = Twins.made(setUp);
        for (int gauge = 0; gauge < 3; gauge++) {
            DUE.is("5: gauge " + gauge, x.setOffset(0, gauge, gauge + 7), 0);
        }
        for (int gauge = 0; gauge < 3; gauge++) {
            DUE.is("5: the offset of " + gauge, x.gauge(0, gauge, 0), gauge + 7);
        }
    }

    private static void shuntSoAlready() {
        Twins.Run setUp = x -> {
            x.addRosette(500, false, 350, 200);
            x.addRosette(501, false, 350, 200);
            x.setShunt(1, true);
        };
        TWINS.changesNothing("6: off already", setUp, x -> x.setShunt(0, false), NONE);
        TWINS.changesNothing("6: on already", setUp, x -> x.setShunt(1, true), NONE);
        TWINS.isAnAct("6: on", setUp, x -> x.setShunt(0, true), 3487);
        TWINS.isAnAct("6: off", setUp, x -> x.setShunt(1, false), 0);
    }

    private static void shuntReadingIsLimited() {
        RosetteGantry x = one();
        x.setStrain(0, 5000, 5000, 0);
        x.setSize(20);
        x.setOffset(0, 0, 2801);
        DUE.is("6: 10000 + 2801 + 17199", x.setShunt(0, true), 30000);
        DUE.is("6: not overloaded", x.rosette(0, 10), 0);
        x.setOffset(0, 0, 2802);
        x.setShunt(0, false);
        DUE.is("6: at most 30000", x.setShunt(0, true), 30000);
        DUE.is("6: overloaded", x.rosette(0, 10), 1);
        x.setShunt(0, false);
        x.setOffset(0, 0, 5000);
        job(x, 1);
        x.setStrain(0, -5000, -5000, 0);
        x.setOffset(0, 0, -9999);
        x.setShunt(0, true);
        DUE.is("6: at least -30000", x.setShunt(0, false), -30000);
        DUE.is("6: the signal", x.gauge(0, 0, 2), -34999);
        x.setOffset(0, 1, 9999);
        DUE.is("6: it is of the gauge 0", x.setShunt(0, true), -34999 + 17199);
    }

    private static void severalShuntsCanBeOn() {
        RosetteGantry x = new RosetteGantry();
        for (int i = 0; i < 8; i++) {
            x.addRosette(i, false, 350, 200);
            DUE.is("6: on", x.setShunt(i, true), 3487);
        }
        for (int i = 0; i < 8; i += 3) {
            x.setShunt(i, false);
        }
        for (int i = 0; i < 8; i++) {
            DUE.is("6: each has a switch of its own", x.rosette(i, 8), i % 3 == 0 ? 0 : 1);
            DUE.is("6: the shunt counts where it is on", x.gauge(i, 2, 2), i % 3 == 0 ? 0 : 3487);
        }
    }

    private static void sizeLimits() {
        int[] wrong = {LEAST, -100, 0, 19, 501, MOST};
        for (int size : wrong) {
            TWINS.changesNothing("7: size " + size, x -> { }, x -> x.setSize(size), BAD_VALUE);
        }
        RosetteGantry x = new RosetteGantry();
        x.addRosette(0, false, 350, 200);
        x.addRosette(1, false, 120, 200);
        int[] sizes = {20, 21, 499, 500};
        // 350000000 / 20350, / 21350, / 499350, / 500350; 120000000 / 20120, / 21120, / 499120, / 500120.
        int[] of350 = {17199, 16393, 700, 699};
        int[] of120 = {5964, 5681, 240, 239};
        int before = 100;
        for (int i = 0; i < sizes.length; i++) {
            DUE.is("7: the previous size", x.setSize(sizes[i]), before);
            DUE.is("7: for 350", x.rosette(0, 9), of350[i]);
            DUE.is("7: for 120", x.rosette(1, 9), of120[i]);
            DUE.is("7: told", x.count(7), sizes[i]);
            before = sizes[i];
        }
        TWINS.isAnAct("7: setSize", y -> y.addRosette(0, false, 350, 200), y -> y.setSize(20), 100);
    }

    private static void sizeSoAlready() {
        TWINS.changesNothing("7: 100 at first", x -> { }, x -> x.setSize(100), NONE);
        TWINS.changesNothing("7: 20 already", x -> x.setSize(20), x -> x.setSize(20), NONE);
        TWINS.changesNothing("7: 500 already", x -> x.setSize(500), x -> x.setSize(500), NONE);
        TWINS.isAnAct("7: 100 again", x -> x.setSize(500), x -> x.setSize(100), 500);
    }

    private static void shuntValueOfEachSize() {
        for (int size = 20; size <= 500; size++) {
            RosetteGantry x = new RosetteGantry();
            x.setSize(size);
            x.addRosette(0, false, 350, 200);
            x.addRosette(1, true, 120, 200);
            DUE.is("SIGNALS: 350 at " + size, x.rosette(0, 9), 350000000 / (350 + 1000 * size));
            DUE.is("SIGNALS: 120 at " + size, x.rosette(1, 9), 120000000 / (120 + 1000 * size));
            DUE.is("SIGNALS: in the signal", x.setShunt(1, true), 120000000 / (120 + 1000 * size));
        }
    }

    private static void signalIsWeakened() {
        RosetteGantry x = new RosetteGantry();
        x.addRosette(0, false, 120, 200);
        x.addRosette(1, false, 350, 200);
        int[] offsets = {9999, 7, 6, 1, -1, -6, -7, -9999};
        // v * 120000 / 140000 and v * 350000 / 370000.
        int[] of120 = {8570, 6, 5, 0, 0, -5, -6, -8570};
        int[] of350 = {9458, 6, 5, 0, 0, -5, -6, -9458};
        for (int i = 0; i < offsets.length; i++) {
            for (int r = 0; r < 2; r++) {
                x.setOffset(r, 0, offsets[i]);
                x.setLeads(r, 0);
                DUE.is("SIGNALS: leads 0 weaken nothing", x.gauge(r, 0, 2), offsets[i]);
                x.setLeads(r, 20000);
                DUE.is("SIGNALS: " + offsets[i] + " comes out", x.gauge(r, 0, 2), r == 0 ? of120[i] : of350[i]);
            }
        }
        x.setOffset(0, 0, 9999);
        x.setLeads(0, 1);
        DUE.is("SIGNALS: a milliohm weakens", x.gauge(0, 0, 2), 9998);
        x.setLeads(0, 0);
        job(x, 1);
        x.setLeads(0, 20000);
        DUE.is("SIGNALS: the zero does not go through the leads", x.gauge(0, 0, 2), 8570 - 9999);
    }

    private static void readingIsLimited() {
        for (int gauge = 0; gauge < 3; gauge++) {
            RosetteGantry x = one();
            x.setStrain(0, 5000, 5000, 0);
            x.setOffset(0, gauge, 5000);
            job(x, 1);
            DUE.is("SIGNALS: the zero", x.gauge(0, gauge, 4), 15000);
            x.setStrain(0, -5000, -5000, 0);
            int[] offsets = {-4999, -5000, -5001, -9999};
            int[] signals = {-29999, -30000, -30001, -34999};
            for (int i = 0; i < offsets.length; i++) {
                x.setOffset(0, gauge, offsets[i]);
                limited(x, gauge, signals[i]);
            }
            x.setOffset(0, gauge, -5000);
            job(x, 1);
            x.setStrain(0, 5000, 5000, 0);
            int[] above = {4999, 5000, 5001, 9999};
            for (int i = 0; i < above.length; i++) {
                x.setOffset(0, gauge, above[i]);
                limited(x, gauge, 25000 + above[i]);
            }
        }
    }

    private static void limited(RosetteGantry x, int gauge, int signal) {
        int reading = signal > 30000 ? 30000 : signal < -30000 ? -30000 : signal;
        DUE.is("SIGNALS: the signal is not limited", x.gauge(0, gauge, 2), signal);
        DUE.is("SIGNALS: the reading is", x.gauge(0, gauge, 3), reading);
        DUE.is("SIGNALS: overloaded beyond 30000", x.rosette(0, 10), reading == signal ? 0 : 1);
        DUE.is("SIGNALS: corrected from the reading", x.gauge(0, gauge, 6), reading * 100 / 200);
    }

    private static void gainIsTheLatest() {
        RosetteGantry x = new RosetteGantry();
        x.addRosette(0, false, 120, 200);
        x.addRosette(1, false, 120, 200);
        int[] leads = {20000, 10000, 0, 1};
        int[] gains = {1167, 1084, 1000, 1000};
        for (int i = 0; i < leads.length; i++) {
            x.setLeads(0, leads[i]);
            DUE.is("ROSETTES: the gain stays", x.gauge(0, 1, 5), i == 0 ? 1000 : gains[i - 1]);
            job(x, 2);
            DUE.is("ROSETTES: what the latest check told", x.gauge(0, 1, 5), gains[i]);
        }
        DUE.is("ROSETTES: not of the other one", x.gauge(1, 1, 5), 1000);
    }

    private static void unknownIsAskedFirst() {
        int[] wrong = {LEAST, -1, 2, 7, 8, MOST};
        Twins.Run setUp = x -> {
            x.addRosette(0, false, 120, 200);
            x.addRosette(1, true, 350, 200);
        };
        for (int r : wrong) {
            TWINS.changesNothing("3: rosette " + r, setUp, x -> x.setStrain(r, 1, 1, 1), UNKNOWN);
            TWINS.changesNothing("3: ahead of the values", setUp, x -> x.setStrain(r, 5001, 5001, 5001), UNKNOWN);
            TWINS.changesNothing("3: ahead of NONE", setUp, x -> x.setStrain(r, 0, 0, 0), UNKNOWN);
            TWINS.changesNothing("4: rosette " + r, setUp, x -> x.setLeads(r, 1), UNKNOWN);
            TWINS.changesNothing("4: ahead of the value", setUp, x -> x.setLeads(r, -1), UNKNOWN);
            TWINS.changesNothing("4: ahead of NONE", setUp, x -> x.setLeads(r, 0), UNKNOWN);
            TWINS.changesNothing("5: rosette " + r, setUp, x -> x.setOffset(r, 0, 1), UNKNOWN);
            TWINS.changesNothing("5: ahead of the value", setUp, x -> x.setOffset(r, 0, 10000), UNKNOWN);
            TWINS.changesNothing("5: ahead of NONE", setUp, x -> x.setOffset(r, 2, 0), UNKNOWN);
            TWINS.changesNothing("6: rosette " + r, setUp, x -> x.setShunt(r, true), UNKNOWN);
            TWINS.changesNothing("6: ahead of NONE", setUp, x -> x.setShunt(r, false), UNKNOWN);
        }
    }
}
