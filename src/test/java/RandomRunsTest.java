/**
 * Runs of 512 calls, always the same ones, against the slow model: first changes and questions as they come, then as many
 * questions of one kind after the other as the object still answers.
 */
public final class RandomRunsTest {
    private static final int RUNS = 480;
    private static final int MOST_CALLS = 512;
    /** A text that is appended sign by sign and run, with its reasons, takes the most calls of what comes at once. */
    private static final int MOST_AT_ONCE = 100;
    private static final int KINDS_OF_QUESTIONS = 6;

    private final Due due;
    private final PierRings x = new PierRings();
    private final Model m = new Model();
    private final int run;
    private long seed;
    private int calls = 0;

    private RandomRunsTest(Due due, int run) {
        this.due = due;
        this.run = run;
        this.seed = 7919L * run + 1;
    }

    public static void main(String[] args) {
        Due due = new Due("RandomRunsTest");
        for (int run = 0; run < RUNS && due.wrong() == 0; run++) {
            RandomRunsTest test = new RandomRunsTest(due, run);
            int changing = 50 + 50 * (run % 8);
            while (test.calls < changing && test.calls + MOST_AT_ONCE <= MOST_CALLS) {
                test.callSomething();
            }
            for (int kind = 0; kind < KINDS_OF_QUESTIONS; kind++) {
                test.compareAllOfAKind((run / 8 + kind) % KINDS_OF_QUESTIONS);
            }
            due.is("more calls than an object answers", test.calls > MOST_CALLS ? 1 : 0, 0);
        }
        due.end();
    }

    private boolean mayAsk() {
        return calls < MOST_CALLS;
    }

    private int below(int bound) {
        seed = seed * 6364136223846793005L + 1442695040888963407L;
        return (int) ((seed >>> 33) % bound);
    }

    /** Mostly from the first to the last number, sometimes beside them, seldom far away. */
    private int near(int least, int most) {
        int kind = below(40);
        if (kind == 0) {
            return least - 1;
        }
        if (kind == 1) {
            return most + 1;
        }
        if (kind == 2) {
            return below(2) == 0 ? Integer.MIN_VALUE : Integer.MAX_VALUE;
        }
        return least + below(most - least + 1);
    }

    private int somePier() {
        return near(0, Math.max(0, m.account(0) - 1));
    }

    private int someBarge() {
        return near(0, Math.max(0, m.account(3) - 1));
    }

    private int someTons() {
        return below(3) == 0 ? near(60, 99) : near(1, 99);
    }

    private int someName() {
        return below(5) == 0 ? near(0, 30) : near(0, 9999);
    }

    private void same(String call, long got, long want) {
        calls++;
        due.is("run " + run + ", " + call, got, want);
    }

    private void callSomething() {
        int kind = below(34);
        if (kind < 12) {
            change(kind);
        } else if (kind < 20) {
            text();
        } else {
            ask(kind);
        }
    }

    private void change(int kind) {
        int a = somePier();
        int b = near(1, 5);
        int tons = someTons();
        int name = someName();
        int barge = someBarge();
        switch (kind) {
            case 0, 1: same("pier(" + b + ")", x.pier(b), m.pier(b)); break;
            case 2: same("close(" + a + ")", x.close(a), m.close(a)); break;
            case 3: same("open(" + a + ")", x.open(a), m.open(a)); break;
            case 4: same("weigh(" + a + ", " + b + ")", x.weigh(a, b), m.weigh(a, b)); break;
            case 5: changeRoomOrTime(); break;
            case 6, 7, 8, 9: same("barge(" + name + ", " + tons + ")", x.barge(name, tons), m.barge(name, tons)); break;
            case 10: same("load(" + barge + ", " + tons + ")", x.load(barge, tons), m.load(barge, tons)); break;
            default:
                if (below(run % 3 + 1) == 0) {
                    same("leave(" + barge + ")", x.leave(barge), m.leave(barge));
                }
        }
    }

    private void changeRoomOrTime() {
        switch (below(7)) {
            case 0, 1, 2:
                int tons = below(2) == 0 ? near(10, 200) : near(10, 30);
                same("berth(" + tons + ")", x.berth(tons), m.berth(tons));
                break;
            case 3:
                same("save()", x.save(), m.save());
                break;
            case 4:
                same("restore()", x.restore(), m.restore());
                break;
            default:
                for (int times = below(11); times > 0; times--) {
                    same("undo()", x.undo(), m.undo());
                }
        }
    }

    private String someOrder() {
        switch (below(10)) {
            case 0: return "pier " + below(7);
            case 1: return "close " + below(9);
            case 2: return "open " + below(9);
            case 3: return "weigh " + below(9) + " " + below(7);
            case 4, 5: return "barge " + below(10000) + " " + below(100);
            case 6: return "gone " + below(26);
            case 7: return "load " + below(26) + " " + below(100);
            case 8: return "berth " + below(230);
            default: return "berth 0" + (10 + below(80));
        }
    }

    private void text() {
        StringBuilder text = new StringBuilder(someOrder());
        for (int more = below(4); more > 0; more--) {
            text.append(';').append(someOrder());
        }
        int damage = below(6);
        int at = below(text.length());
        if (damage == 0) {
            text.setLength(at);
        } else if (damage == 1) {
            text.setCharAt(at, "pgowbclerth; 0123456789~".charAt(below(24)));
        } else if (damage == 2) {
            text.insert(at, "0; b".charAt(below(4)));
        }
        for (int i = 0; i < text.length(); i++) {
            int code = text.charAt(i);
            same("append(" + code + ")", x.append(code), m.append(code));
        }
        if (below(12) == 0) {
            int code = near(32, 126);
            same("append(" + code + ")", x.append(code), m.append(code));
        }
        if (below(10) != 0) {
            same("run() of " + text, x.run(), m.run());
        }
        compareReasons();
    }

    private void ask(int kind) {
        int pier = somePier();
        int barge = someBarge();
        if (kind < 24) {
            askWhatWouldBe(kind, pier, barge);
        } else if (kind < 29) {
            askByNumber(kind);
        } else {
            askOfOne(kind, pier, barge);
        }
        compareReasons();
    }

    private void askWhatWouldBe(int kind, int pier, int barge) {
        int berths = near(1, 5);
        switch (kind) {
            case 20: same("wouldMove(" + berths + ")", x.wouldMove(berths), m.wouldMove(berths)); break;
            case 21: same("wouldClose(" + pier + ")", x.wouldClose(pier), m.wouldClose(pier)); break;
            case 22: same("tell(" + pier + ")", x.tell(pier), m.tell(pier)); break;
            default: same("tellBarge(" + barge + ")", x.tellBarge(barge), m.tellBarge(barge));
        }
    }

    private void askByNumber(int kind) {
        int index = near(0, 60);
        int place = near(0, 80);
        int what = near(0, 3);
        int point = near(0, 359);
        int some = near(0, 14);
        switch (kind) {
            case 24: same("character(" + index + ")", x.character(index), m.character(index)); break;
            case 25: same("isBalanced()", x.isBalanced(), 1); break;
            case 26: same("ring(" + place + ", " + what + ")", x.ring(place, what), m.ring(place, what)); break;
            case 27: same("homeOf(" + point + ")", x.homeOf(point), m.homeOf(point)); break;
            default: same("account(" + some + ")", x.account(some), m.account(some));
        }
    }

    private void askOfOne(int kind, int pier, int barge) {
        int ofPier = near(0, 9);
        int ofBarge = near(0, 4);
        switch (kind) {
            case 29: same("pierOf(" + pier + ", " + ofPier + ")", x.pierOf(pier, ofPier), m.pierOf(pier, ofPier)); break;
            case 30: same("bargeOf(" + barge + ", " + ofBarge + ")", x.bargeOf(barge, ofBarge), m.bargeOf(barge, ofBarge)); break;
            case 31: same("home(" + barge + ")", x.home(barge), m.home(barge)); break;
            case 32: same("homeAgain(" + barge + ")", x.homeAgain(barge), m.home(barge)); break;
            default: same("neighbours(" + pier + ")", x.neighbours(pier), m.neighbours(pier));
        }
    }

    private void compareReasons() {
        same("reason(false)", x.reason(false), m.reason(false));
        same("reason(true)", x.reason(true), m.reason(true));
    }

    private void compareAllOfAKind(int kind) {
        switch (kind) {
            case 0 -> compareNumbers();
            case 1 -> comparePiers();
            case 2 -> compareBarges();
            case 3 -> compareRing();
            case 4 -> compareHomesOfPoints();
            default -> compareLine();
        }
    }

    private void compareNumbers() {
        for (int what = -1; what <= 15 && mayAsk(); what++) {
            same("account(" + what + ")", x.account(what), m.account(what));
        }
        if (calls + 5 <= MOST_CALLS) {
            same("isBalanced()", x.isBalanced(), 1);
            same("deep()", x.deep(), m.deep());
            due.isReal("meanStretch()", x.meanStretch(), m.meanStretch());
            due.isReal("takenShare()", x.takenShare(), m.takenShare());
            calls += 2;
        }
    }

    private void comparePiers() {
        for (int pier = -1; pier <= 8 && calls + 4 <= MOST_CALLS; pier++) {
            same("neighbours(" + pier + ")", x.neighbours(pier), m.neighbours(pier));
            same("wouldClose(" + pier + ")", x.wouldClose(pier), m.wouldClose(pier));
            same("wouldMove(" + pier + ")", x.wouldMove(pier), m.wouldMove(pier));
            same("hottest(" + pier + ")", x.hottest(pier), m.hottest(pier));
        }
        for (int pier = -1; pier <= 8; pier++) {
            for (int what = -1; what <= 10 && mayAsk(); what++) {
                same("pierOf(" + pier + ", " + what + ")", x.pierOf(pier, what), m.pierOf(pier, what));
            }
        }
    }

    private void compareBarges() {
        for (int barge = -1; barge <= m.account(3) && calls + 9 <= MOST_CALLS; barge++) {
            for (int what = -1; what <= 5; what++) {
                same("bargeOf(" + barge + ", " + what + ")", x.bargeOf(barge, what), m.bargeOf(barge, what));
            }
            same("home(" + barge + ")", x.home(barge), m.home(barge));
            same("homeAgain(" + barge + ")", x.homeAgain(barge), m.home(barge));
        }
    }

    private void compareRing() {
        for (int place = -1; place <= m.account(2); place++) {
            for (int what = -1; what <= 4 && mayAsk(); what++) {
                same("ring(" + place + ", " + what + ")", x.ring(place, what), m.ring(place, what));
            }
        }
    }

    private void compareHomesOfPoints() {
        for (int point = -1; point <= 360 && mayAsk(); point++) {
            same("homeOf(" + point + ")", x.homeOf(point), m.homeOf(point));
        }
    }

    private void compareLine() {
        for (int index = -1; index <= 70 && mayAsk(); index++) {
            same("character(" + index + ")", x.character(index), m.character(index));
        }
    }
}
