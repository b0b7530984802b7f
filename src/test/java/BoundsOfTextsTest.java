/** Each sentence of "TEXTS" and of the promises 12 to 14 that names a boundary case, by itself. */
public final class BoundsOfTextsTest {
    private static final int UNKNOWN = -1000001;
    private static final int REFUSED = -1000003;
    private static final int NONE = -1000004;
    private static final Due DUE = new Due("BoundsOfTextsTest");
    private static final Twins TWINS = new Twins(DUE);
    private static final Twins.Run ONE = x -> x.addRosette(500, false, 350, 200);

    public static void main(String[] args) {
        atMostSixtyCharacters();
        fullText();
        anyCharacter();
        clearedText();
        emptyTextEndsTooEarly();
        endsTooEarly();
        eachSignAtEachPlace();
        faultAtEachIndex();
        faultIsTheFirst();
        faultIsAnError();
        rosettePlaysNoPartInTheFault();
        eachRosetteDigit();
        eachUrgencyDigit();
        eachLetter();
        oneJobAndTwenty();
        unknownForAnyOfThem();
        roomForAllOrNone();
        orderOfChecks();
        oneAct();
        textStays();
        DUE.end();
    }

    private static Twins.Run with(Twins.Run setUp, String text) {
        return x -> {
            setUp.on(x);
            Due.typeAll(x, text);
        };
    }

    private static Twins.Run waiting(int jobs) {
        return x -> {
            ONE.on(x);
            for (int i = 0; i < jobs; i++) {
                x.request(0, 0, 5);
            }
        };
    }

    private static String jobs(int number) {
        StringBuilder text = new StringBuilder("r0");
        for (int i = 1; i < number; i++) {
            text.append(",r0");
        }
        return text.toString();
    }

    private static int read(String text) {
        return Twins.made(with(ONE, text)).readJobs();
    }

    private static void atMostSixtyCharacters() {
        RosetteGantry x = new RosetteGantry();
        for (int i = 1; i <= 60; i++) {
            DUE.is("12: the length then", x.type('r'), i);
            DUE.is("12: told", x.count(11), i);
        }
        for (int i = 0; i < 3; i++) {
            DUE.is("12: it has 60 characters", x.type('r'), REFUSED);
            DUE.is("12: it still has 60", x.count(11), 60);
        }
        DUE.is("12: typing is no act", x.count(10), 0);
    }

    private static void fullText() {
        Twins.Run full = with(ONE, jobs(20) + "!");
        TWINS.isRefused("12: type behind 60", full, x -> x.type('5'), 1);
        TWINS.isRefused("12: whatever character", full, x -> x.type('\0'), 1);
        Twins.Run other = x -> {
            full.on(x);
            x.addRosette(500, true, 120, 200);
        };
        TWINS.isRefused("12: in place of another reason", other, x -> x.type(','), 1);
        RosetteGantry x = Twins.made(full);
        x.type('5');
        DUE.is("12: what is refused is not in the text", x.readJobs(), -160);
    }

    private static void anyCharacter() {
        RosetteGantry x = new RosetteGantry();
        char[] any = {0, 1, '\n', ' ', 127, 128, 255, 256, 0x7FFF, 0x8000, 0xD800, 0xFFFF};
        for (int i = 0; i < any.length; i++) {
            DUE.is("12: any character", x.type(any[i]), i + 1);
        }
        DUE.is("14: it is no letter of a job", x.readJobs(), -100);
    }

    private static void clearedText() {
        RosetteGantry x = Twins.made(ONE);
        DUE.is("13: an empty one", x.clearText(), 0);
        x.type('r');
        DUE.is("13: one character", x.clearText(), 1);
        DUE.is("13: it is empty", x.clearText(), 0);
        for (int i = 0; i < 60; i++) {
            x.type('0');
        }
        DUE.is("13: a full one", x.clearText(), 60);
        DUE.is("13: told", x.count(11), 0);
        DUE.is("13: there is room again", x.type('b'), 1);
        x.type('0');
        DUE.is("13: nothing of the former one is left", x.readJobs(), 1);
        DUE.is("13: no act: the rosette and the jobs alone", x.count(10), 2);
        RosetteGantry y = Twins.made(ONE);
        y.addRosette(500, true, 120, 200);
        y.clearText();
        DUE.is("13: the reason stays", y.count(9), 6);
    }

    private static void emptyTextEndsTooEarly() {
        DUE.is("14: empty", read(""), -100);
        DUE.is("14: empty, without a rosette", new RosetteGantry().readJobs(), -100);
        RosetteGantry x = Twins.made(with(ONE, "r0"));
        x.clearText();
        DUE.is("14: emptied", x.readJobs(), -100);
    }

    private static void endsTooEarly() {
        String[] early = {"r", "b", "s", "r0!", "r0,", "r0,r", "r0!5,", "r0!5,b", "r0!5,b0!", "r0,r0,r0,"};
        for (String text : early) {
            DUE.is("14: <" + text + "> ends too early", read(text), -100 - text.length());
        }
        DUE.is("14: 60 characters that end too early", read(jobs(20) + ","), -160);
        DUE.is("14: with a mark", read(jobs(20) + "!"), -160);
        DUE.is("14: with a letter", read("r0!0," + jobs(18) + ",r"), -160);
        String[] whole = {"r0", "r0!0", "r0,r0", "r0!9,r0", "r0,r0!9"};
        int[] number = {1, 1, 2, 2, 2};
        for (int i = 0; i < whole.length; i++) {
            DUE.is("14: <" + whole[i] + "> does not", read(whole[i]), number[i]);
        }
    }

    /** Each sign behind each beginning: those that are allowed there, and all others, also those beyond 255. */
    private static void eachSignAtEachPlace() {
        String[] beginnings = {"", "r", "r0", "r0!", "r0!5", "r0,", "r0!5,", "r0,b", "r0,b7", "r0,b0!", "r0,b0!0"};
        String[] allowed = {
            "rbs", "01234567", "!,", "0123456789", ",", "rbs", "rbs", "01234567", "!,", "0123456789", ","};
        for (int i = 0; i < beginnings.length; i++) {
            int at = beginnings[i].length();
            for (int sign = 0; sign < 65536; sign += sign < 400 ? 1 : 37) {
                int fault = -100 - read(beginnings[i] + (char) sign + "?");
                boolean good = allowed[i].indexOf(sign) >= 0;
                DUE.is("14: the sign " + sign + " behind <" + beginnings[i] + ">", fault, good ? at + 1 : at);
            }
            for (char sign : allowed[i].toCharArray()) {
                int fault = -100 - read(beginnings[i] + (char) (sign + 256) + "?");
                DUE.is("14: the sign 256 beyond " + sign, fault, at);
            }
        }
    }

    private static void faultAtEachIndex() {
        String good = jobs(20);
        for (int at = 0; at < good.length(); at++) {
            String text = good.substring(0, at) + '?' + good.substring(at + 1);
            DUE.is("14: a fault at " + at, read(text), -100 - at);
            // A job is whole where the next sign is to be a comma, but for the end of the text.
            DUE.is("14: an end at " + at, read(good.substring(0, at)), at % 3 == 2 ? at / 3 + 1 : -100 - at);
        }
        DUE.is("14: a fault at 59", read(good + "?"), -159);
    }

    private static void faultIsTheFirst() {
        DUE.is("14: of two", read("r0,x,y"), -103);
        DUE.is("14: ahead of the end", read("r0?r"), -102);
        DUE.is("14: at the beginning", read("?????"), -100);
        DUE.is("14: an urgency of two digits", read("r0!10,r9"), -104);
        DUE.is("14: a rosette of two digits", read("r01,r9"), -102);
        DUE.is("14: two marks", read("r0!5!5"), -104);
        DUE.is("14: two commas", read("r0,,r0"), -103);
        DUE.is("14: a comma ahead", read(",r0"), -100);
        DUE.is("14: no comma between", read("r0b0"), -102);
        DUE.is("14: no comma behind the urgency", read("r0!5b0"), -104);
    }

    private static void faultIsAnError() {
        String[] texts = {"", "r", "x", "r0,", "r0,r0,x", "r0!", "r8", "r0!x"};
        int[] due = {-100, -101, -100, -103, -106, -103, -101, -103};
        for (int i = 0; i < texts.length; i++) {
            TWINS.changesNothing("14: <" + texts[i] + ">", with(waiting(3), texts[i]), x -> x.readJobs(), due[i]);
        }
    }

    private static void rosettePlaysNoPartInTheFault() {
        Twins.Run none = x -> { };
        TWINS.changesNothing("14: the fault, without a rosette", with(none, "r7,"), x -> x.readJobs(), -103);
        TWINS.changesNothing("14: the fault behind it", with(none, "r7,b6!x"), x -> x.readJobs(), -106);
        TWINS.changesNothing("14: no fault, but no rosette", with(none, "r0"), x -> x.readJobs(), UNKNOWN);
        TWINS.changesNothing("14: nor the rosette 7", with(ONE, "r7"), x -> x.readJobs(), UNKNOWN);
        TWINS.changesNothing("14: 8 is no digit of a rosette", with(none, "r8"), x -> x.readJobs(), -101);
    }

    private static void eachRosetteDigit() {
        RosetteGantry x = new RosetteGantry();
        for (int i = 0; i < 8; i++) {
            x.addRosette(i, false, 120, 200);
        }
        Due.typeAll(x, "r7,r6,r5,r4,r3,r2,r1,r0");
        DUE.is("14: eight", x.readJobs(), 8);
        for (int r = 0; r < 8; r++) {
            DUE.is("14: of the rosette " + r, x.rosette(r, 11), 1);
            DUE.is("14: its number", x.job(r, 0), 7 - r);
        }
        x.undo();
        x.undo();
        DUE.is("14: the rosette 7 is gone", x.readJobs(), UNKNOWN);
    }

    private static void eachUrgencyDigit() {
        for (int urgency = 0; urgency <= 9; urgency++) {
            RosetteGantry x = Twins.made(with(ONE, "b0!" + urgency));
            DUE.is("14: one job", x.readJobs(), 1);
            DUE.is("14: its urgency", x.job(0, 3), urgency);
        }
        RosetteGantry x = Twins.made(with(ONE, "r0!0,r0,r0!5,r0!9,r0"));
        DUE.is("14: five", x.readJobs(), 5);
        int[] numbers = {3, 1, 2, 4, 0};
        int[] urgencies = {9, 5, 5, 5, 0};
        for (int i = 0; i < numbers.length; i++) {
            DUE.is("14: in the order of doing", x.job(i, 0), numbers[i]);
            DUE.is("14: 5 where none is told", x.job(i, 3), urgencies[i]);
        }
    }

    private static void eachLetter() {
        String letters = "rbs";
        for (int kind = 0; kind < 3; kind++) {
            RosetteGantry x = Twins.made(with(ONE, letters.charAt(kind) + "0"));
            DUE.is("14: one job", x.readJobs(), 1);
            DUE.is("14: its kind", x.job(0, 1), kind);
            DUE.is("14: a great letter is none", read(letters.toUpperCase().charAt(kind) + "0"), -100);
        }
    }

    private static void oneJobAndTwenty() {
        RosetteGantry x = Twins.made(with(ONE, jobs(20)));
        DUE.is("14: twenty", x.readJobs(), 20);
        for (int i = 0; i < 20; i++) {
            DUE.is("14: in their order", x.job(i, 0), i);
        }
        DUE.is("14: no more", x.job(20, 0), NONE);
        RosetteGantry y = Twins.made(with(ONE, "r0!5,r0!5,r0!5,r0!5,r0!5,r0!5,r0!5,r0!5,r0!5,r0!5,r0!5,r0!5"));
        DUE.is("14: 59 characters with urgencies", y.count(11), 59);
        DUE.is("14: twelve", y.readJobs(), 12);
        RosetteGantry z = Twins.made(with(ONE, "r0!5,r0!5,r0!5,r0!5,r0!5,r0!5,r0!5,r0!5,r0,r0,r0,r0,r0,r0!5"));
        DUE.is("14: 59 characters mixed", z.count(11), 59);
        DUE.is("14: fourteen", z.readJobs(), 14);
        RosetteGantry w = Twins.made(with(ONE, "r0!5,r0!6," + jobs(17)));
        DUE.is("14: 60 characters", w.count(11), 60);
        DUE.is("14: nineteen", w.readJobs(), 19);
    }

    private static void unknownForAnyOfThem() {
        String[] texts = {"r1", "r0,r1", "r1,r0", "r0,r1,r0", "r7,r1", "s0!9,b0!0,r2!5"};
        for (String text : texts) {
            TWINS.changesNothing("14: <" + text + ">", with(waiting(1), text), x -> x.readJobs(), UNKNOWN);
        }
    }

    private static void roomForAllOrNone() {
        for (int number = 1; number <= 20; number++) {
            RosetteGantry x = Twins.made(with(waiting(20 - number), jobs(number)));
            DUE.is("14: room for " + number, x.readJobs(), number);
            DUE.is("14: 20 wait", x.count(1), 20);
            DUE.is("14: the last one", x.job(19, 0), 19);
            RosetteGantry y = Twins.made(with(waiting(21 - number), jobs(number)));
            DUE.is("14: no room for all of " + number, y.readJobs(), REFUSED);
            DUE.is("14: none is requested", y.count(1), 21 - number);
        }
        TWINS.isRefused("14: 21 would wait", with(waiting(18), jobs(3)), x -> x.readJobs(), 1);
        TWINS.isRefused("14: one too many", with(waiting(20), "s0!9"), x -> x.readJobs(), 1);
        TWINS.isRefused("14: 40 would wait", with(waiting(20), jobs(20)), x -> x.readJobs(), 1);
    }

    private static void orderOfChecks() {
        TWINS.changesNothing("14: the fault ahead of UNKNOWN", with(waiting(20), "r1,x"), x -> x.readJobs(), -103);
        TWINS.changesNothing("14: the fault ahead of room", with(waiting(20), "r0,"), x -> x.readJobs(), -103);
        TWINS.changesNothing("14: UNKNOWN ahead of room", with(waiting(20), "r0,r1"), x -> x.readJobs(), UNKNOWN);
        TWINS.isRefused("14: then room", with(waiting(20), "r0,r0"), x -> x.readJobs(), 1);
    }

    private static void oneAct() {
        TWINS.isAnAct("14: one job", with(waiting(0), "r0"), x -> x.readJobs(), 1);
        TWINS.isAnAct("14: twenty jobs", with(waiting(0), jobs(20)), x -> x.readJobs(), 20);
        TWINS.isAnAct("14: up to 20", with(waiting(17), "r0!0,b0!9,s0"), x -> x.readJobs(), 3);
        RosetteGantry x = Twins.made(with(ONE, "r0"));
        x.addRosette(500, true, 120, 200);
        x.readJobs();
        DUE.is("14: the reason stays", x.count(9), 6);
    }

    private static void textStays() {
        RosetteGantry x = Twins.made(with(ONE, "r0!7"));
        for (int i = 1; i <= 20; i++) {
            DUE.is("14: read again", x.readJobs(), 1);
            DUE.is("14: the text stays", x.count(11), 4);
            DUE.is("14: so many wait", x.count(1), i);
        }
        DUE.is("14: refused", x.readJobs(), REFUSED);
        DUE.is("14: it stays then, too", x.count(11), 4);
        x.type('x');
        DUE.is("14: a fault", x.readJobs(), -104);
        DUE.is("14: it stays then, too", x.count(11), 5);
        x.undo();
        x.keep();
        x.restore();
        DUE.is("HISTORY: the text is no part of the state", x.count(11), 5);
    }
}
