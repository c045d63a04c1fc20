import java.util.ArrayList;
import java.util.EnumSet;
import java.util.List;
import java.util.Set;

/**
 * What a call leaves as it was: two objects are led to the same state, one of them alone is asked, and then both are
 * looked at. Each look has twins of its own, as an object answers 512 calls.
 */
final class Twins {
    interface Start {
        void lead(PierRings x);
    }

    interface Call {
        int on(PierRings x);
    }

    /** Some hundred questions at most, so that the object still answers what is looked at behind them. */
    interface Question {
        void ask(PierRings x);
    }

    /** What is looked at; the last ones show what only later calls tell: the changes, the text, the snapshot. */
    enum Look {
        REASONS, LINE, NUMBERS, PIERS, BARGES, RING, WOULD_BE, UNDONE_NUMBERS, UNDONE_PIERS, UNDONE_NAMES, UNDONE_TONS,
        TEXT, RESTORED
    }

    private Twins() {
    }

    /** The call answers so, and leaves everything as it was. */
    static void unchanged(Due due, String name, Start start, Call call, int answer) {
        compare(due, name, start, call, answer, start, EnumSet.noneOf(Look.class));
    }

    /** Asking leaves everything as it was, with nothing there, with some, and with all that can be there. */
    static void asked(Due due, String name, Question question) {
        Call call = x -> {
            question.ask(x);
            return 0;
        };
        unchanged(due, name + ", nothing is there", Starts::none, call, 0);
        unchanged(due, name + ", some is there", Starts::some, call, 0);
        unchanged(due, name + ", all is there", Starts::full, call, 0);
    }

    /** The call answers so, and leaves everything but this as it was. */
    static void unchangedBut(Due due, String name, Start start, Call call, int answer, Look changed) {
        compare(due, name, start, call, answer, start, EnumSet.of(changed));
    }

    /** The call is refused for the reason, with the detail, and leaves everything else as it was. */
    static void refused(Due due, String name, Start start, Call call, int reason, int detail) {
        refusedAs(due, name, start, call, start, reason, detail);
    }

    /** As refused, but afterwards everything else is as in an object that was led to another start. */
    static void refusedAs(Due due, String name, Start start, Call call, Start other, int reason, int detail) {
        compare(due, name, start, call, PierRings.REFUSED, other, EnumSet.of(Look.REASONS));
        PierRings x = led(start);
        call.on(x);
        due.is(name + ": the reason", x.reason(false), reason);
        due.is(name + ": the detail", x.reason(true), detail);
    }

    /** The call answers so, and afterwards everything is as in an object that was led to another start. */
    static void becomes(Due due, String name, Start start, Call call, int answer, Start other) {
        compare(due, name, start, call, answer, other, EnumSet.noneOf(Look.class));
    }

    private static void compare(Due due, String name, Start start, Call call, int answer, Start other, Set<Look> without) {
        for (Look look : Look.values()) {
            if (!without.contains(look)) {
                PierRings asked = led(start);
                due.is(name, call.on(asked), answer);
                compareLists(due, name + " leaves " + look, seen(look, asked), seen(look, led(other)));
            }
        }
    }

    private static void compareLists(Due due, String name, List<String> got, List<String> want) {
        int both = Math.min(got.size(), want.size());
        for (int i = 0; i < both; i++) {
            due.isText(name, got.get(i), want.get(i));
        }
        due.is(name + ", how many", got.size(), want.size());
    }

    private static PierRings led(Start start) {
        PierRings x = new PierRings();
        start.lead(x);
        return x;
    }

    private static List<String> seen(Look look, PierRings x) {
        List<String> seen = new ArrayList<>();
        switch (look) {
            case REASONS -> {
                put(seen, "reason(false)", x.reason(false));
                put(seen, "reason(true)", x.reason(true));
            }
            case LINE -> seen.add("line = " + Due.line(x));
            case NUMBERS -> seeNumbers(x, seen);
            case PIERS -> seePiers(x, seen);
            case BARGES -> seeBarges(x, seen);
            case RING -> seeRing(x, seen);
            case WOULD_BE -> seeWhatWouldBe(x, seen);
            case TEXT -> {
                put(seen, "run()", x.run());
                seeNumbers(x, seen);
                seeOrigin(look, x, seen);
            }
            case RESTORED -> {
                put(seen, "restore()", x.restore());
                seeNumbers(x, seen);
                seeOrigin(look, x, seen);
            }
            default -> seeUndone(look, x, seen);
        }
        return seen;
    }

    private static void put(List<String> seen, String call, int answer) {
        seen.add(call + " = " + answer);
    }

    private static void seeNumbers(PierRings x, List<String> seen) {
        for (int what = 0; what <= 14; what++) {
            put(seen, "account(" + what + ")", x.account(what));
        }
        put(seen, "deep()", x.deep());
        put(seen, "isBalanced()", x.isBalanced());
        seen.add("meanStretch() = " + x.meanStretch());
        seen.add("takenShare() = " + x.takenShare());
    }

    private static void seePiers(PierRings x, List<String> seen) {
        for (int pier = 0; pier < x.account(0); pier++) {
            for (int what = 0; what <= 9; what++) {
                put(seen, "pierOf(" + pier + ", " + what + ")", x.pierOf(pier, what));
            }
            put(seen, "neighbours(" + pier + ")", x.neighbours(pier));
        }
    }

    private static void seeBarges(PierRings x, List<String> seen) {
        for (int barge = 0; barge < x.account(3); barge++) {
            for (int what = 0; what <= 4; what++) {
                put(seen, "bargeOf(" + barge + ", " + what + ")", x.bargeOf(barge, what));
            }
            put(seen, "home(" + barge + ")", x.home(barge));
            put(seen, "homeAgain(" + barge + ")", x.homeAgain(barge));
        }
    }

    private static void seeRing(PierRings x, List<String> seen) {
        int points = x.account(2);
        for (int place = 0; place < points; place++) {
            for (int what = 0; what <= 3; what++) {
                put(seen, "ring(" + place + ", " + what + ")", x.ring(place, what));
            }
        }
        for (int point = 0; point < 360; point += 9) {
            put(seen, "homeOf(" + point + ")", x.homeOf(point));
        }
    }

    private static void seeWhatWouldBe(PierRings x, List<String> seen) {
        for (int berths = 1; berths <= 5; berths++) {
            put(seen, "wouldMove(" + berths + ")", x.wouldMove(berths));
        }
        for (int pier = 0; pier <= 8; pier++) {
            put(seen, "wouldClose(" + pier + ")", x.wouldClose(pier));
            put(seen, "hottest(" + pier + ")", x.hottest(pier));
        }
    }

    private static void seeUndone(Look look, PierRings x, List<String> seen) {
        for (int times = 0; times < 9; times++) {
            put(seen, "undo()", x.undo());
            seeOrigin(look, x, seen);
        }
    }

    /** What all else is told from, in parts: two of them are too many calls for all that can be undone. */
    private static void seeOrigin(Look look, PierRings x, List<String> seen) {
        boolean isAll = look == Look.TEXT || look == Look.RESTORED;
        if (isAll || look == Look.UNDONE_NUMBERS) {
            put(seen, "account(10)", x.account(10));
            put(seen, "account(11)", x.account(11));
            put(seen, "account(14)", x.account(14));
        }
        for (int pier = 0; pier < 8 && (isAll || look == Look.UNDONE_PIERS); pier++) {
            put(seen, "pierOf(" + pier + ", 0)", x.pierOf(pier, 0));
            put(seen, "pierOf(" + pier + ", 1)", x.pierOf(pier, 1));
        }
        for (int barge = 0; barge < 24 && (isAll || look == Look.UNDONE_NAMES); barge++) {
            put(seen, "bargeOf(" + barge + ", 0)", x.bargeOf(barge, 0));
        }
        for (int barge = 0; barge < 24 && (isAll || look == Look.UNDONE_TONS); barge++) {
            put(seen, "bargeOf(" + barge + ", 1)", x.bargeOf(barge, 1));
        }
    }
}
