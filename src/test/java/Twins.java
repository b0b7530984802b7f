/**
 * Holds two gantries against each other that were made alike, but for one call. Each part of what is told is told by
 * gantries made anew, so that none of them is used for more than the 512 calls for which the document answers.
 */
final class Twins {
    static final int REFUSED = -1000003;
    private static final int MOST_STATES = 5;
    private static final int BEHIND_RESTORE = MOST_STATES + 1;
    private static final int BEHIND_READING = MOST_STATES + 2;
    private static final int PARTS = 9;

    /** What is done with a gantry. */
    interface Run {
        void on(RosetteGantry x);
    }

    /** A call the answer of which is looked at. */
    interface Call {
        int on(RosetteGantry x);
    }

    private final Due due;

    Twins(Due due) {
        this.due = due;
    }

    /** The call answers so, and changes nothing: not the state, the history, the snapshot, the text or the reason. */
    void changesNothing(String what, Run setUp, Call call, int want) {
        due.is(what, call.on(made(setUp)), want);
        alike(what + " changes nothing", setUp, both(setUp, x -> call.on(x)));
        due.is(what + ": the reason", made(both(setUp, x -> call.on(x))).count(9), made(setUp).count(9));
    }

    /** The call is refused for the reason, and changes nothing else. */
    void isRefused(String what, Run setUp, Call call, int reason) {
        due.is(what, call.on(made(setUp)), REFUSED);
        alike(what + " changes nothing else", setUp, both(setUp, x -> call.on(x)));
        due.is(what + ": the reason", made(both(setUp, x -> call.on(x))).count(9), reason);
    }

    /** The call is an act: it answers so, it is recorded, and undo brings back all that was before. */
    void isAnAct(String what, Run setUp, Call call, int want) {
        RosetteGantry x = made(setUp);
        int states = x.count(10);
        due.is(what, call.on(x), want);
        due.is(what + " is recorded", x.count(10), Math.min(states + 1, MOST_STATES));
        Run undone = both(setUp, y -> {
            call.on(y);
            y.undo();
        });
        for (int part = 0; part < PARTS; part++) {
            String before = tell(made(setUp), part);
            due.holds(what + ": undo brings back part " + part, tell(made(undone), part).equals(before));
        }
    }

    void alike(String what, Run one, Run other) {
        for (int behind = 0; behind <= BEHIND_READING; behind++) {
            for (int part = 0; part < PARTS; part++) {
                RosetteGantry x = made(one);
                RosetteGantry y = made(other);
                due.is(what + ": " + behind, goOn(x, behind), goOn(y, behind));
                String told = tell(y, part);
                due.holds(what + ": " + behind + ", part " + part + " is " + told, tell(x, part).equals(told));
                due.is(what + ": states in the history", y.count(10), x.count(10));
                due.is(what + ": the length of the text", y.count(11), x.count(11));
            }
        }
    }

    static Run both(Run first, Run second) {
        return x -> {
            first.on(x);
            second.on(x);
        };
    }

    static RosetteGantry made(Run setUp) {
        RosetteGantry x = new RosetteGantry();
        setUp.on(x);
        return x;
    }

    /** Brings to light what is not told as it stands: the history, the snapshot and the text. */
    private static int goOn(RosetteGantry x, int behind) {
        if (behind == BEHIND_RESTORE) {
            return x.restore();
        }
        if (behind == BEHIND_READING) {
            return x.readJobs();
        }
        int last = 0;
        for (int i = 0; i < behind; i++) {
            last = x.undo();
        }
        return last;
    }

    private static String tell(RosetteGantry x, int part) {
        StringBuilder told = new StringBuilder();
        if (part > 0) {
            tellRosette(x, part - 1, told);
            return told.toString();
        }
        for (int what = 0; what <= 8; what++) {
            told.append(x.count(what)).append(' ');
        }
        for (int i = 0; i < 20; i++) {
            for (int what = 0; what <= 4; what++) {
                told.append(x.job(i, what)).append(' ');
            }
        }
        for (int i = 0; i < 12; i++) {
            for (int what = 0; what <= 3; what++) {
                told.append(x.record(i, what)).append(' ');
            }
        }
        return told.toString();
    }

    private static void tellRosette(RosetteGantry x, int r, StringBuilder told) {
        for (int what = 0; what <= 11; what++) {
            told.append(x.rosette(r, what)).append(' ');
        }
        for (int what = 0; what <= 7; what++) {
            told.append(x.principal(r, what)).append(' ');
            for (int gauge = 0; gauge < 3; gauge++) {
                told.append(x.gauge(r, gauge, what)).append(' ');
            }
        }
    }
}
