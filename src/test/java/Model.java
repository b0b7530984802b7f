import java.util.ArrayDeque;
import java.util.ArrayList;
import java.util.Comparator;
import java.util.Deque;
import java.util.List;
import java.util.regex.Matcher;
import java.util.regex.Pattern;

/** A second, plain model of the document: every number is worked out anew from what was set. */
final class Model {
    static final int UNKNOWN = -1000001;
    static final int BAD_VALUE = -1000002;
    static final int REFUSED = -1000003;
    static final int NONE = -1000004;

    private static final String ONE_JOB = "[rbs][0-7](![0-9])?";
    private static final Pattern WHOLE = Pattern.compile(ONE_JOB + "(," + ONE_JOB + ")*");
    private static final Pattern BEGUN = Pattern.compile("(" + ONE_JOB + ",)*([rbs]([0-7](!([0-9])?)?)?)?");
    private static final Pattern JOB = Pattern.compile("([rbs])([0-7])(?:!([0-9]))?");

    private static final class Strainer {
        int place;
        boolean delta;
        int resistance;
        int factor;
        int leads;
        int[] strain = new int[3];
        boolean on;
        int[] offset = new int[3];
        int[] zero = new int[3];
        int[] gain = {1000, 1000, 1000};

        Strainer copy() {
            Strainer c = new Strainer();
            c.place = place;
            c.delta = delta;
            c.resistance = resistance;
            c.factor = factor;
            c.leads = leads;
            c.strain = strain.clone();
            c.on = on;
            c.offset = offset.clone();
            c.zero = zero.clone();
            c.gain = gain.clone();
            return c;
        }
    }

    private record Job(int number, int kind, int rosette, int urgency) { }

    private record Done(int kind, int rosette, int result, int reason) { }

    private static final class All {
        List<Strainer> rosettes = new ArrayList<>();
        List<Job> jobs = new ArrayList<>();
        List<Done> records = new ArrayList<>();
        int size = 100;
        int place;
        int way;
        int requests;
        int done;
        int refused;

        All copy() {
            All c = new All();
            for (Strainer s : rosettes) {
                c.rosettes.add(s.copy());
            }
            c.jobs.addAll(jobs);
            c.records.addAll(records);
            c.size = size;
            c.place = place;
            c.way = way;
            c.requests = requests;
            c.done = done;
            c.refused = refused;
            return c;
        }
    }

    private All all = new All();
    private All snapshot;
    private final Deque<All> history = new ArrayDeque<>();
    private String text = "";
    private int reason;

    // ---- what comes of what was set

    private boolean unknown(int r) {
        return r < 0 || r >= all.rosettes.size();
    }

    private static boolean out(int number, int least, int most) {
        return number < least || number > most;
    }

    private int refuse(int why) {
        reason = why;
        return REFUSED;
    }

    private void act() {
        history.addLast(all.copy());
        if (history.size() > 5) {
            history.removeFirst();
        }
    }

    private static long through(Strainer s, long v) {
        long bridge = s.resistance * 1000L;
        return v * bridge / (bridge + s.leads);
    }

    private long shuntValue(Strainer s) {
        return s.resistance * 1000000L / (s.resistance + 1000L * all.size);
    }

    private static long strain(Strainer s, int gauge) {
        long x = s.strain[0];
        long y = s.strain[1];
        long g = s.strain[2];
        if (gauge == 0) {
            return x;
        }
        if (!s.delta) {
            return gauge == 1 ? (x + y + g) / 2 : y;
        }
        long m = (x + 3 * y) / 4;
        long t = g * 433 / 1000;
        return gauge == 1 ? m + t : m - t;
    }

    private long signal(Strainer s, int gauge, boolean on) {
        long sum = through(s, s.offset[gauge]);
        sum += through(s, strain(s, gauge) * s.factor / 100);
        if (on) {
            sum += through(s, shuntValue(s));
        }
        return sum - s.zero[gauge];
    }

    private long reading(Strainer s, int gauge, boolean on) {
        long signal = signal(s, gauge, on);
        if (signal > 30000) {
            return 30000;
        }
        return signal < -30000 ? -30000 : signal;
    }

    private boolean overloaded(Strainer s, int gauge, boolean on) {
        return Math.abs(signal(s, gauge, on)) > 30000;
    }

    private int overloads(Strainer s) {
        int n = 0;
        for (int gauge = 0; gauge < 3; gauge++) {
            n += overloaded(s, gauge, s.on) ? 1 : 0;
        }
        return n;
    }

    private long corrected(Strainer s, int gauge) {
        return reading(s, gauge, s.on) * s.gain[gauge] / 1000 * 100 / s.factor;
    }

    private long step(Strainer s, int gauge) {
        return reading(s, gauge, true) - reading(s, gauge, false);
    }

    private long[] numbers(Strainer s) {
        long a = corrected(s, 0);
        long b = corrected(s, 1);
        long c = corrected(s, 2);
        if (!s.delta) {
            return new long[] {a, c, 2 * b - a - c};
        }
        return new long[] {a, (2 * b + 2 * c - a) / 3, (b - c) * 11547 / 10000};
    }

    private static int c(int k) {
        int[] first = {10000, 9659, 8660, 7071, 5000, 2588, 0};
        if (k > 12) {
            return c(24 - k);
        }
        return k <= 6 ? first[k] : -first[12 - k];
    }

    private static int s(int k) {
        return k >= 6 ? c(k - 6) : c(6 - k);
    }

    private long pullOf(Strainer s, int k) {
        long[] n = numbers(s);
        return (n[0] - n[1]) * c(k) + n[2] * s(k);
    }

    private int directionOf(Strainer s) {
        int best = 23;
        for (int k = 23; k >= 0; k--) {
            if (pullOf(s, k) >= pullOf(s, best)) {
                best = k;
            }
        }
        return best;
    }

    private long radius(Strainer s) {
        return pullOf(s, directionOf(s)) / 20000;
    }

    private long mean(Strainer s) {
        long[] n = numbers(s);
        return (n[0] + n[1]) / 2;
    }

    // ---- rosettes

    int addRosette(int place, boolean delta, int resistance, int factor) {
        if (out(place, 0, 1000) || resistance != 120 && resistance != 350 || out(factor, 180, 240)) {
            return BAD_VALUE;
        }
        if (all.rosettes.size() == 8) {
            return refuse(1);
        }
        for (Strainer s : all.rosettes) {
            if (s.place == place) {
                return refuse(6);
            }
        }
        act();
        Strainer s = new Strainer();
        s.place = place;
        s.delta = delta;
        s.resistance = resistance;
        s.factor = factor;
        all.rosettes.add(s);
        return all.rosettes.size() - 1;
    }

    int setStrain(int r, int x, int y, int g) {
        if (unknown(r)) {
            return UNKNOWN;
        }
        if (out(x, -5000, 5000) || out(y, -5000, 5000) || out(g, -5000, 5000)) {
            return BAD_VALUE;
        }
        Strainer s = all.rosettes.get(r);
        int[] now = {x, y, g};
        if (java.util.Arrays.equals(now, s.strain)) {
            return NONE;
        }
        act();
        Strainer before = s.copy();
        s.strain = now;
        int changed = 0;
        for (int gauge = 0; gauge < 3; gauge++) {
            changed += reading(s, gauge, s.on) != reading(before, gauge, s.on) ? 1 : 0;
        }
        return changed;
    }

    int setLeads(int r, int leads) {
        if (unknown(r)) {
            return UNKNOWN;
        }
        if (out(leads, 0, 20000)) {
            return BAD_VALUE;
        }
        int old = all.rosettes.get(r).leads;
        if (old == leads) {
            return NONE;
        }
        act();
        all.rosettes.get(r).leads = leads;
        return old;
    }

    int setOffset(int r, int gauge, int offset) {
        if (unknown(r) || out(gauge, 0, 2)) {
            return UNKNOWN;
        }
        if (out(offset, -9999, 9999)) {
            return BAD_VALUE;
        }
        int old = all.rosettes.get(r).offset[gauge];
        if (old == offset) {
            return NONE;
        }
        act();
        all.rosettes.get(r).offset[gauge] = offset;
        return old;
    }

    int setShunt(int r, boolean on) {
        if (unknown(r)) {
            return UNKNOWN;
        }
        Strainer s = all.rosettes.get(r);
        if (s.on == on) {
            return NONE;
        }
        act();
        s.on = on;
        return (int) reading(s, 0, on);
    }

    int setSize(int size) {
        if (out(size, 20, 500)) {
            return BAD_VALUE;
        }
        int old = all.size;
        if (old == size) {
            return NONE;
        }
        act();
        all.size = size;
        return old;
    }

    // ---- jobs

    int request(int kind, int r, int urgency) {
        if (unknown(r)) {
            return UNKNOWN;
        }
        if (out(kind, 0, 2) || out(urgency, 0, 9)) {
            return BAD_VALUE;
        }
        if (all.jobs.size() >= 20) {
            return refuse(1);
        }
        act();
        all.jobs.add(new Job(all.requests, kind, r, urgency));
        return all.requests++;
    }

    int cancel(int r) {
        if (unknown(r)) {
            return UNKNOWN;
        }
        int before = all.jobs.size();
        if (all.jobs.stream().noneMatch(j -> j.rosette() == r)) {
            return NONE;
        }
        act();
        all.jobs.removeIf(j -> j.rosette() == r);
        return before - all.jobs.size();
    }

    private List<Job> order() {
        List<Job> left = new ArrayList<>(all.jobs);
        List<Job> order = new ArrayList<>();
        int at = all.place;
        while (!left.isEmpty()) {
            int here = at;
            Job first = left.stream().min(Comparator.comparingInt((Job j) -> -j.urgency())
                .thenComparingInt(j -> Math.abs(all.rosettes.get(j.rosette()).place - here))
                .thenComparingInt(Job::number)).get();
            left.remove(first);
            order.add(first);
            at = all.rosettes.get(first.rosette()).place;
        }
        return order;
    }

    private Job doFirst() {
        Job job = order().get(0);
        all.jobs.remove(job);
        Strainer s = all.rosettes.get(job.rosette());
        all.way += Math.abs(s.place - all.place);
        all.place = s.place;
        all.done++;
        int against = against(job.kind(), s);
        int result = NONE;
        if (against == 0) {
            result = carryOut(job.kind(), s);
        } else {
            all.refused++;
            reason = against;
        }
        all.records.add(0, new Done(job.kind(), job.rosette(), result, against));
        if (all.records.size() > 12) {
            all.records.remove(12);
        }
        return job;
    }

    private int against(int kind, Strainer s) {
        if (kind == 0) {
            return overloads(s) > 0 ? 2 : 0;
        }
        if (kind == 1 && s.on) {
            return 4;
        }
        int found = 0;
        for (int gauge = 0; gauge < 3; gauge++) {
            if (kind == 1 && Math.abs(signal(s, gauge, false) + s.zero[gauge]) > 15000) {
                found = 3;
            }
            if (kind == 2 && (overloaded(s, gauge, true) || overloaded(s, gauge, false))) {
                found = 2;
            }
            if (kind == 2 && found == 0 && step(s, gauge) == 0) {
                found = 5;
            }
        }
        return found;
    }

    private int carryOut(int kind, Strainer s) {
        if (kind == 0) {
            return (int) (mean(s) + radius(s));
        }
        int changed = 0;
        for (int gauge = 0; gauge < 3; gauge++) {
            int old = kind == 1 ? s.zero[gauge] : s.gain[gauge];
            if (kind == 1) {
                s.zero[gauge] += (int) signal(s, gauge, false);
            } else {
                s.gain[gauge] = (int) (shuntValue(s) * 1000 / step(s, gauge));
            }
            changed += old != (kind == 1 ? s.zero[gauge] : s.gain[gauge]) ? 1 : 0;
        }
        return changed;
    }

    int next() {
        if (all.jobs.isEmpty()) {
            return NONE;
        }
        act();
        return doFirst().number();
    }

    int workOff() {
        if (all.jobs.isEmpty()) {
            return NONE;
        }
        act();
        int good = 0;
        while (!all.jobs.isEmpty()) {
            doFirst();
            good += all.records.get(0).reason() == 0 ? 1 : 0;
        }
        return good;
    }

    // ---- texts

    int type(char character) {
        if (text.length() >= 60) {
            return refuse(1);
        }
        text += character;
        return text.length();
    }

    int clearText() {
        int length = text.length();
        text = "";
        return length;
    }

    int readJobs() {
        if (!WHOLE.matcher(text).matches()) {
            int good = 0;
            while (good < text.length() && BEGUN.matcher(text.substring(0, good + 1)).matches()) {
                good++;
            }
            return -100 - good;
        }
        List<Job> found = new ArrayList<>();
        Matcher m = JOB.matcher(text);
        while (m.find()) {
            int urgency = m.group(3) == null ? 5 : Integer.parseInt(m.group(3));
            int kind = "rbs".indexOf(m.group(1));
            found.add(new Job(all.requests + found.size(), kind, Integer.parseInt(m.group(2)), urgency));
        }
        if (found.stream().anyMatch(j -> unknown(j.rosette()))) {
            return UNKNOWN;
        }
        if (all.jobs.size() + found.size() > 20) {
            return refuse(1);
        }
        act();
        all.jobs.addAll(found);
        all.requests += found.size();
        return found.size();
    }

    // ---- history

    int undo() {
        if (history.isEmpty()) {
            return NONE;
        }
        all = history.removeLast();
        return history.size();
    }

    int keep() {
        snapshot = all.copy();
        return all.rosettes.size();
    }

    int restore() {
        if (snapshot == null) {
            return NONE;
        }
        act();
        all = snapshot.copy();
        return all.rosettes.size();
    }

    // ---- what is told

    int rosette(int r, int what) {
        if (unknown(r)) {
            return UNKNOWN;
        }
        if (out(what, 0, 11)) {
            return BAD_VALUE;
        }
        Strainer s = all.rosettes.get(r);
        long waiting = all.jobs.stream().filter(j -> j.rosette() == r).count();
        long[] told = {
            s.place, s.delta ? 1 : 0, s.resistance, s.factor, s.leads, s.strain[0], s.strain[1], s.strain[2],
            s.on ? 1 : 0, shuntValue(s), overloads(s), waiting};
        return Math.toIntExact(told[what]);
    }

    int gauge(int r, int gauge, int what) {
        if (unknown(r) || out(gauge, 0, 2)) {
            return UNKNOWN;
        }
        if (out(what, 0, 7)) {
            return BAD_VALUE;
        }
        Strainer s = all.rosettes.get(r);
        long[] told = {
            s.offset[gauge], strain(s, gauge), signal(s, gauge, s.on), reading(s, gauge, s.on), s.zero[gauge],
            s.gain[gauge], corrected(s, gauge), step(s, gauge)};
        return Math.toIntExact(told[what]);
    }

    int principal(int r, int what) {
        if (unknown(r)) {
            return UNKNOWN;
        }
        if (out(what, 0, 7)) {
            return BAD_VALUE;
        }
        Strainer s = all.rosettes.get(r);
        long[] n = numbers(s);
        long[] told = {
            mean(s) + radius(s), mean(s) - radius(s), directionOf(s), radius(s), n[0], n[1], n[2], mean(s)};
        return Math.toIntExact(told[what]);
    }

    int pull(int r, int direction) {
        if (unknown(r)) {
            return UNKNOWN;
        }
        if (out(direction, 0, 23)) {
            return BAD_VALUE;
        }
        return Math.toIntExact(pullOf(all.rosettes.get(r), direction) / 20000);
    }

    int job(int job, int what) {
        if (job < 0 || out(what, 0, 4)) {
            return BAD_VALUE;
        }
        if (job >= all.jobs.size()) {
            return NONE;
        }
        List<Job> order = order();
        int way = 0;
        int at = all.place;
        for (Job j : order.subList(0, job + 1)) {
            int there = all.rosettes.get(j.rosette()).place;
            way += Math.abs(there - at);
            at = there;
        }
        Job j = order.get(job);
        return new int[] {j.number(), j.kind(), j.rosette(), j.urgency(), way}[what];
    }

    int record(int record, int what) {
        if (record < 0 || out(what, 0, 3)) {
            return BAD_VALUE;
        }
        if (record >= all.records.size()) {
            return NONE;
        }
        Done d = all.records.get(record);
        return new int[] {d.kind(), d.rosette(), d.result(), d.reason()}[what];
    }

    int neighbour(int place, boolean up) {
        if (out(place, 0, 1000)) {
            return BAD_VALUE;
        }
        for (int p = place + (up ? 1 : -1); p >= 0 && p <= 1000; p += up ? 1 : -1) {
            for (int r = 0; r < all.rosettes.size(); r++) {
                if (all.rosettes.get(r).place == p) {
                    return r;
                }
            }
        }
        return NONE;
    }

    int count(int what) {
        if (out(what, 0, 11)) {
            return BAD_VALUE;
        }
        return new int[] {
            all.rosettes.size(), all.jobs.size(), all.requests, all.done, all.refused, all.place, all.way, all.size,
            all.records.size(), reason, history.size(), text.length()}[what];
    }
}
