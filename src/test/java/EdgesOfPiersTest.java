/**
 * Promises 1 to 8 at their edges, a case for each. With one berth each the piers 0, 1, 2 have the points 0 and 56,
 * 137 and 193, 274 and 330.
 */
public final class EdgesOfPiersTest {
    private static final int NONE = PierRings.NONE;
    private static final int BAD = PierRings.BAD;
    private static final int REFUSED = PierRings.REFUSED;
    private static final int NOTHING = PierRings.NOTHING;

    public static void main(String[] args) {
        Cases.run(EdgesOfPiersTest.class, 1, 8, args);
    }

    // ---- promise 1: a new object

    private static void p01_noPierIsThere(Due due) {
        PierRings x = new PierRings();
        due.is("account(0)", x.account(0), 0);
        due.is("account(1)", x.account(1), 0);
        due.is("account(9)", x.account(9), 0);
        due.is("pierOf(0, 0)", x.pierOf(0, 0), NONE);
        due.is("neighbours(0)", x.neighbours(0), NONE);
        due.is("wouldClose(0)", x.wouldClose(0), NONE);
        due.is("hottest(0)", x.hottest(0), NONE);
        due.is("tell(0)", x.tell(0), NONE);
        due.is("close(0)", x.close(0), NONE);
        due.is("open(0)", x.open(0), NONE);
        due.is("weigh(0, 2)", x.weigh(0, 2), NONE);
        due.isReal("meanStretch()", x.meanStretch(), 0.0);
        due.isReal("takenShare()", x.takenShare(), 0.0f);
    }

    private static void p01_noBargeIsThere(Due due) {
        PierRings x = new PierRings();
        for (int what = 3; what <= 8; what++) {
            due.is("account(" + what + ")", x.account(what), 0);
        }
        due.is("bargeOf(0, 0)", x.bargeOf(0, 0), NONE);
        due.is("home(0)", x.home(0), NONE);
        due.is("homeAgain(0)", x.homeAgain(0), NONE);
        due.is("tellBarge(0)", x.tellBarge(0), NONE);
        due.is("leave(0)", x.leave(0), NONE);
        due.is("load(0, 5)", x.load(0, 5), NONE);
        due.is("wouldMove(5)", x.wouldMove(5), 0);
    }

    private static void p01_noPointIsOnTheRingOrInTheTree(Due due) {
        PierRings x = new PierRings();
        due.is("account(2)", x.account(2), 0);
        due.is("deep()", x.deep(), 0);
        due.is("ring(0, 0)", x.ring(0, 0), NONE);
        due.is("homeOf(0)", x.homeOf(0), NOTHING);
        due.is("homeOf(359)", x.homeOf(359), NOTHING);
    }

    private static void p01_noHomeMovedAndNoPierIsHot(Due due) {
        PierRings x = new PierRings();
        due.is("account(10)", x.account(10), 0);
        due.is("account(12)", x.account(12), 0);
        due.is("isBalanced()", x.isBalanced(), 1);
    }

    private static void p01_aBerthBears60TonsAtFirst(Due due) {
        due.is("account(11)", new PierRings().account(11), 60);
        due.is("berth(61)", new PierRings().berth(61), 60);
        due.is("pierOf(0, 8)", Starts.withPiers(1).pierOf(0, 8), 60);
    }

    private static void p01_theTextAndTheLineAreEmpty(Due due) {
        PierRings x = new PierRings();
        due.is("account(13)", x.account(13), 0);
        due.is("character(0)", x.character(0), NONE);
        due.is("run()", x.run(), -1000);
    }

    private static void p01_nothingWasRefused(Due due) {
        PierRings x = new PierRings();
        due.is("reason(false)", x.reason(false), NOTHING);
        due.is("reason(true)", x.reason(true), NOTHING);
    }

    private static void p01_nothingCanBeUndoneOrRestored(Due due) {
        PierRings x = new PierRings();
        due.is("account(14)", x.account(14), 0);
        due.is("undo()", x.undo(), NOTHING);
        due.is("restore()", x.restore(), NOTHING);
    }

    private static void p01_twoObjectsAreApart(Due due) {
        PierRings untouched = new PierRings();
        PierRings other = new PierRings();
        Starts.full(other);
        other.save();
        for (int what = 0; what <= 14; what++) {
            due.is("account(" + what + ")", untouched.account(what), what == 11 ? 60 : 0);
        }
        due.is("character(0)", untouched.character(0), NONE);
        due.is("reason(false)", untouched.reason(false), NOTHING);
        due.is("restore()", untouched.restore(), NOTHING);
        due.is("deep()", untouched.deep(), 0);
    }

    private static void p01_the512thCallStillAnswers(Due due) {
        PierRings x = Starts.withPiers(1);
        for (int call = 2; call <= 511; call++) {
            due.is("call " + call, call % 2 == 0 ? x.close(0) : x.open(0), 0);
        }
        due.is("call 512", x.account(14), 8);
    }

    // ---- promise 2: pier

    private static void p02_0BerthsIsOneBelowTheFirst_bad(Due due) {
        Twins.unchanged(due, "pier(0)", Starts::none, x -> x.pier(0), BAD);
        Twins.unchanged(due, "pier(0)", Starts::some, x -> x.pier(0), BAD);
    }

    private static void p02_1BerthIsTheFirstInRange(Due due) {
        PierRings x = new PierRings();
        due.is("pier(1)", x.pier(1), 0);
        due.is("its berths", x.pierOf(0, 0), 1);
        due.is("its points", x.account(2), 2);
        due.is("its room", x.account(9), 60);
    }

    private static void p02_5BerthsAreTheLastInRange(Due due) {
        PierRings x = new PierRings();
        due.is("pier(5)", x.pier(5), 0);
        due.is("its berths", x.pierOf(0, 0), 5);
        due.is("its points", x.account(2), 10);
        due.is("its room", x.account(9), 300);
    }

    private static void p02_6BerthsIsOneAboveTheLast_bad(Due due) {
        Twins.unchanged(due, "pier(6)", Starts::none, x -> x.pier(6), BAD);
        Twins.unchanged(due, "pier(6)", Starts::some, x -> x.pier(6), BAD);
    }

    private static void p02_berthsFarOutOfRange_bad(Due due) {
        PierRings x = new PierRings();
        for (int far : Starts.FAR) {
            due.is("pier(" + far + ")", x.pier(far), BAD);
        }
        due.is("account(0)", x.account(0), 0);
    }

    private static void p02_theFirstPierIsTheNumber0AndOpen(Due due) {
        PierRings x = new PierRings();
        due.is("pier(2)", x.pier(2), 0);
        due.is("account(0)", x.account(0), 1);
        due.is("pierOf(0, 1)", x.pierOf(0, 1), 1);
    }

    private static void p02_the8thPierIsTheNumber7AndOpen(Due due) {
        PierRings x = Starts.withPiers(1, 1, 1, 1, 1, 1, 1);
        due.is("pier(5)", x.pier(5), 7);
        due.is("account(0)", x.account(0), 8);
        due.is("pierOf(7, 1)", x.pierOf(7, 1), 1);
        due.is("its points", x.pierOf(7, 2), 10);
        due.is("no reason", x.reason(false), NOTHING);
    }

    private static void p02_the9thPier_refusedForReason1With8(Due due) {
        Twins.refused(due, "pier(1)", Starts::full, x -> x.pier(1), 1, 8);
        Twins.refused(due, "pier(5)", Starts::eightPiers, x -> x.pier(5), 1, 8);
    }

    private static void p02_the9thPierThough8AreClosed_refused(Due due) {
        Twins.refused(due, "pier(1)", EdgesOfPiersTest::eightClosed, x -> x.pier(1), 1, 8);
    }

    private static void eightClosed(PierRings x) {
        Starts.eightPiers(x);
        for (int pier = 0; pier < 8; pier++) {
            x.close(pier);
        }
    }

    private static void p02_badIsListedAheadOfRefused(Due due) {
        Twins.unchanged(due, "pier(0), the 9th", Starts::full, x -> x.pier(0), BAD);
        Twins.unchanged(due, "pier(6), the 9th", Starts::full, x -> x.pier(6), BAD);
    }

    private static void p02_the8thIsUndone_anotherJoins(Due due) {
        PierRings x = new PierRings();
        Starts.eightPiers(x);
        x.undo();
        due.is("pier(4)", x.pier(4), 7);
        due.is("pierOf(7, 0)", x.pierOf(7, 0), 4);
        due.is("pier(4)", x.pier(4), REFUSED);
    }

    private static void p02_theFirstPierGivesBargesWithoutHomeOne_theyCountAsMoved(Due due) {
        PierRings x = new PierRings();
        Starts.twentyFourBarges(x);
        due.is("pier(1)", x.pier(1), 0);
        due.is("account(10)", x.account(10), 24);
    }

    private static void p02_aHomeBehind359MovesToAPierThatJoins(Due due) {
        PierRings x = Starts.withPiers(1, 1, 1);
        x.close(0);
        Starts.bargeAt(x, 331, 5);
        Starts.bargeAt(x, 359, 5);
        Starts.bargeAt(x, 0, 5);
        Starts.bargeAt(x, 52, 5);
        due.is("the home of 359", x.home(1), 1);
        due.is("pier(1), the points 51 and 107", x.pier(1), 3);
        due.is("four moved", x.account(10), 4);
        due.is("the home of 331", x.home(0), 3);
        due.is("the home of 359", x.home(1), 3);
        due.is("the home of 0", x.home(2), 3);
        due.is("52 goes on to 107", x.home(3), 3);
    }

    // ---- promise 3: close

    private static void p03_minus1IsOneBelowTheFirstPier_none(Due due) {
        Twins.unchanged(due, "close(-1)", Starts::some, x -> x.close(-1), NONE);
        Twins.unchanged(due, "close(-1)", Starts::full, x -> x.close(-1), NONE);
    }

    private static void p03_theFirstPier(Due due) {
        PierRings x = Starts.withPiers(1, 1, 1);
        due.is("close(0)", x.close(0), 0);
        due.is("pierOf(0, 1)", x.pierOf(0, 1), 0);
        due.is("account(1)", x.account(1), 2);
    }

    private static void p03_theLastPierOf8(Due due) {
        PierRings x = new PierRings();
        Starts.eightPiers(x);
        due.is("close(7)", x.close(7), 0);
        due.is("pierOf(7, 1)", x.pierOf(7, 1), 0);
        due.is("account(1)", x.account(1), 7);
    }

    private static void p03_oneAboveTheLastPier_none(Due due) {
        Twins.unchanged(due, "close(3)", Starts::some, x -> x.close(3), NONE);
        Twins.unchanged(due, "close(8)", Starts::full, x -> x.close(8), NONE);
    }

    private static void p03_noPierIsThere_none(Due due) {
        Twins.unchanged(due, "close(0)", Starts::none, x -> x.close(0), NONE);
    }

    private static void p03_pierFarOutOfRange_none(Due due) {
        PierRings x = Starts.withPiers(1);
        for (int far : Starts.FAR) {
            due.is("close(" + far + ")", x.close(far), NONE);
        }
        due.is("account(1)", x.account(1), 1);
    }

    private static void p03_closedAlready_refusedForReason3WithThePier(Due due) {
        Twins.refused(due, "close(2)", Starts::some, x -> x.close(2), 3, 2);
        Twins.refused(due, "close(3)", Starts::full, x -> x.close(3), 3, 3);
        Twins.refused(due, "close(0)", EdgesOfPiersTest::eightClosed, x -> x.close(0), 3, 0);
        Twins.refused(due, "close(7)", EdgesOfPiersTest::eightClosed, x -> x.close(7), 3, 7);
    }

    private static void p03_noBargeIsThere_0(Due due) {
        PierRings x = Starts.withPiers(5);
        due.is("close(0)", x.close(0), 0);
        due.is("account(10)", x.account(10), 0);
        due.is("a change all the same", x.account(14), 2);
    }

    private static void p03_theLastOpenPier_all24HaveNone(Due due) {
        PierRings x = Starts.withPiers(3, 2);
        x.close(0);
        Starts.twentyFourBarges(x);
        due.is("close(1)", x.close(1), 24);
        due.is("account(10)", x.account(10), 24);
        due.is("account(1)", x.account(1), 0);
        due.is("home(23)", x.home(23), NOTHING);
        due.is("account(6)", x.account(6), 24);
    }

    private static void p03_aBargeAtAPointMovesAndOneBehindTheLastPointStays(Due due) {
        PierRings x = Starts.withPiers(1, 1);
        Starts.bargeAt(x, 56, 5);
        Starts.bargeAt(x, 57, 5);
        Starts.bargeAt(x, 193, 5);
        Starts.bargeAt(x, 194, 5);
        due.is("close(1)", x.close(1), 2);
        due.is("account(10)", x.account(10), 2);
        for (int barge = 0; barge < 4; barge++) {
            due.is("home(" + barge + ")", x.home(barge), 0);
        }
    }

    private static void p03_homesBehind359Move(Due due) {
        PierRings x = Starts.withPiers(1, 1, 1);
        Starts.bargeAt(x, 330, 5);
        Starts.bargeAt(x, 331, 5);
        Starts.bargeAt(x, 359, 5);
        Starts.bargeAt(x, 0, 5);
        due.is("close(0)", x.close(0), 3);
        due.is("330 is at home at 2", x.home(0), 2);
        due.is("331 goes on behind 359", x.home(1), 1);
        due.is("359 too", x.home(2), 1);
        due.is("0 goes on", x.home(3), 1);
    }

    private static void p03_aClosedPierHasNoRoom(Due due) {
        PierRings x = Starts.withPiers(1, 1);
        Starts.bargeAt(x, 0, 60);
        Starts.bargeAt(x, 137, 60);
        due.is("close(0)", x.close(0), 1);
        due.is("it takes the room of 1, by its number", x.bargeOf(0, 3), 1);
        due.is("the other one lies nowhere", x.bargeOf(1, 3), NOTHING);
    }

    // ---- promise 4: open

    private static void p04_minus1IsOneBelowTheFirstPier_none(Due due) {
        Twins.unchanged(due, "open(-1)", Starts::some, x -> x.open(-1), NONE);
        Twins.unchanged(due, "open(-1)", EdgesOfPiersTest::eightClosed, x -> x.open(-1), NONE);
    }

    private static void p04_theFirstPier(Due due) {
        PierRings x = new PierRings();
        eightClosed(x);
        due.is("open(0)", x.open(0), 0);
        due.is("pierOf(0, 1)", x.pierOf(0, 1), 1);
        due.is("account(1)", x.account(1), 1);
    }

    private static void p04_theLastPierOf8(Due due) {
        PierRings x = new PierRings();
        eightClosed(x);
        due.is("open(7)", x.open(7), 0);
        due.is("pierOf(7, 1)", x.pierOf(7, 1), 1);
        due.is("account(1)", x.account(1), 1);
        due.is("its points", x.account(2), 6);
    }

    private static void p04_eachOf8PiersComesBackWithItsBerthsAndPoints(Due due) {
        for (int pier = 0; pier < 8; pier++) {
            PierRings x = new PierRings();
            Starts.eightPiers(x);
            x.close(pier);
            due.is("open(" + pier + ")", x.open(pier), 0);
            for (int other = 0; other < 8; other++) {
                due.is("its berths, the pier " + other, x.pierOf(other, 0), 1 + other % 5);
                due.is("its points, the pier " + other, x.pierOf(other, 2), 2 * (1 + other % 5));
            }
        }
    }

    private static void p04_oneAboveTheLastPier_none(Due due) {
        Twins.unchanged(due, "open(3)", Starts::some, x -> x.open(3), NONE);
        Twins.unchanged(due, "open(8)", EdgesOfPiersTest::eightClosed, x -> x.open(8), NONE);
    }

    private static void p04_noPierIsThere_none(Due due) {
        Twins.unchanged(due, "open(0)", Starts::none, x -> x.open(0), NONE);
    }

    private static void p04_pierFarOutOfRange_none(Due due) {
        PierRings x = Starts.withPiers(1);
        x.close(0);
        for (int far : Starts.FAR) {
            due.is("open(" + far + ")", x.open(far), NONE);
        }
        due.is("account(1)", x.account(1), 0);
    }

    private static void p04_openAlready_refusedForReason3WithThePier(Due due) {
        Twins.refused(due, "open(0)", Starts::some, x -> x.open(0), 3, 0);
        Twins.refused(due, "open(1)", Starts::some, x -> x.open(1), 3, 1);
        Twins.refused(due, "open(7)", Starts::full, x -> x.open(7), 3, 7);
    }

    private static void p04_noBargeIsThere_0(Due due) {
        PierRings x = Starts.withPiers(5);
        x.close(0);
        due.is("open(0)", x.open(0), 0);
        due.is("a change all the same", x.account(14), 3);
    }

    private static void p04_noPierWasOpen_all24HaveAnotherHome(Due due) {
        PierRings x = Starts.withPiers(1);
        x.close(0);
        Starts.twentyFourBarges(x);
        due.is("account(10)", x.account(10), 0);
        due.is("open(0)", x.open(0), 24);
        due.is("account(10)", x.account(10), 24);
        due.is("home(0)", x.home(0), 0);
        due.is("home(23)", x.home(23), 0);
    }

    private static void p04_homesBehind359Move(Due due) {
        PierRings x = Starts.withPiers(1, 1, 1);
        x.close(0);
        Starts.bargeAt(x, 330, 5);
        Starts.bargeAt(x, 331, 5);
        Starts.bargeAt(x, 359, 5);
        Starts.bargeAt(x, 0, 5);
        Starts.bargeAt(x, 56, 5);
        Starts.bargeAt(x, 57, 5);
        due.is("open(0)", x.open(0), 4);
        due.is("account(10)", x.account(10), 4);
        due.is("330 stays", x.home(0), 2);
        due.is("331", x.home(1), 0);
        due.is("57 stays", x.home(5), 1);
    }

    // ---- promise 5: weigh

    private static void p05_minus1IsOneBelowTheFirstPier_none(Due due) {
        Twins.unchanged(due, "weigh(-1, 2)", Starts::some, x -> x.weigh(-1, 2), NONE);
        Twins.unchanged(due, "weigh(-1, 2)", Starts::full, x -> x.weigh(-1, 2), NONE);
    }

    private static void p05_theFirstAndTheLastPierOf8(Due due) {
        PierRings x = new PierRings();
        Starts.eightPiers(x);
        due.is("weigh(0, 4)", x.weigh(0, 4), 0);
        due.is("pierOf(0, 0)", x.pierOf(0, 0), 4);
        due.is("weigh(7, 4)", x.weigh(7, 4), 0);
        due.is("pierOf(7, 0)", x.pierOf(7, 0), 4);
        due.is("account(2)", x.account(2), 2 * (4 + 2 + 3 + 4 + 5 + 1 + 2 + 4));
    }

    private static void p05_oneAboveTheLastPier_none(Due due) {
        Twins.unchanged(due, "weigh(3, 2)", Starts::some, x -> x.weigh(3, 2), NONE);
        Twins.unchanged(due, "weigh(8, 2)", Starts::full, x -> x.weigh(8, 2), NONE);
    }

    private static void p05_noPierIsThere_none(Due due) {
        Twins.unchanged(due, "weigh(0, 1)", Starts::none, x -> x.weigh(0, 1), NONE);
    }

    private static void p05_numbersFarOutOfRange(Due due) {
        PierRings x = Starts.withPiers(2);
        for (int far : Starts.FAR) {
            due.is("weigh(" + far + ", 3)", x.weigh(far, 3), NONE);
            due.is("weigh(0, " + far + ")", x.weigh(0, far), BAD);
        }
        due.is("pierOf(0, 0)", x.pierOf(0, 0), 2);
    }

    private static void p05_0BerthsIsOneBelowTheFirst_bad(Due due) {
        Twins.unchanged(due, "weigh(0, 0)", Starts::some, x -> x.weigh(0, 0), BAD);
        Twins.unchanged(due, "weigh(2, 0), closed", Starts::some, x -> x.weigh(2, 0), BAD);
    }

    private static void p05_1BerthIsTheFirstInRange(Due due) {
        PierRings x = Starts.withPiers(2);
        due.is("weigh(0, 1)", x.weigh(0, 1), 0);
        due.is("its points", x.pierOf(0, 2), 2);
        due.is("its room", x.pierOf(0, 8), 60);
    }

    private static void p05_5BerthsAreTheLastInRange(Due due) {
        PierRings x = Starts.withPiers(4);
        due.is("weigh(0, 5)", x.weigh(0, 5), 0);
        due.is("its points", x.pierOf(0, 2), 10);
        due.is("its room", x.pierOf(0, 8), 300);
    }

    private static void p05_6BerthsIsOneAboveTheLast_bad(Due due) {
        Twins.unchanged(due, "weigh(0, 6)", Starts::some, x -> x.weigh(0, 6), BAD);
        Twins.unchanged(due, "weigh(2, 6), closed", Starts::some, x -> x.weigh(2, 6), BAD);
    }

    private static void p05_noneIsListedAheadOfBad(Due due) {
        Twins.unchanged(due, "weigh(-1, 0)", Starts::some, x -> x.weigh(-1, 0), NONE);
        Twins.unchanged(due, "weigh(3, 6)", Starts::some, x -> x.weigh(3, 6), NONE);
        Twins.unchanged(due, "weigh(8, 6)", Starts::full, x -> x.weigh(8, 6), NONE);
    }

    private static void p05_theSameBerths_refusedForReason3WithTheBerths(Due due) {
        Twins.refused(due, "weigh(0, 2)", Starts::some, x -> x.weigh(0, 2), 3, 2);
        Twins.refused(due, "weigh(0, 1)", Starts::full, x -> x.weigh(0, 1), 3, 1);
        Twins.refused(due, "weigh(4, 5)", Starts::full, x -> x.weigh(4, 5), 3, 5);
    }

    private static void p05_theSameBerthsOfAClosedPier_refused(Due due) {
        Twins.refused(due, "weigh(2, 3)", Starts::some, x -> x.weigh(2, 3), 3, 3);
        Twins.refused(due, "weigh(3, 4)", Starts::full, x -> x.weigh(3, 4), 3, 4);
    }

    private static void p05_aClosedPierIsWeighed_0AndItStaysClosed(Due due) {
        PierRings x = Starts.withPiers(1, 1);
        Starts.twentyFourBarges(x);
        x.close(1);
        int moved = x.account(10);
        due.is("weigh(1, 5)", x.weigh(1, 5), 0);
        due.is("pierOf(1, 0)", x.pierOf(1, 0), 5);
        due.is("pierOf(1, 1)", x.pierOf(1, 1), 0);
        due.is("pierOf(1, 2)", x.pierOf(1, 2), 0);
        due.is("pierOf(1, 8)", x.pierOf(1, 8), 0);
        due.is("account(2)", x.account(2), 2);
        due.is("account(10)", x.account(10), moved);
        x.open(1);
        due.is("opened, with its new berths", x.pierOf(1, 2), 10);
    }

    private static void p05_noBargeIsThere_0(Due due) {
        PierRings x = Starts.withPiers(1, 1);
        due.is("weigh(1, 5)", x.weigh(1, 5), 0);
        due.is("weigh(1, 1)", x.weigh(1, 1), 0);
        due.is("account(10)", x.account(10), 0);
    }

    private static void p05_theOnlyOpenPier_noHomeMoves(Due due) {
        PierRings x = Starts.withPiers(1);
        Starts.twentyFourBarges(x);
        due.is("weigh(0, 5)", x.weigh(0, 5), 0);
        due.is("account(10)", x.account(10), 0);
    }

    private static void p05_homesBehind359Move(Due due) {
        PierRings x = Starts.withPiers(1, 1, 1);
        x.close(0);
        Starts.bargeAt(x, 330, 5);
        Starts.bargeAt(x, 331, 5);
        Starts.bargeAt(x, 359, 5);
        Starts.bargeAt(x, 26, 5);
        Starts.bargeAt(x, 27, 5);
        due.is("weigh(2, 2), with 26 and 82", x.weigh(2, 2), 4);
        due.is("account(10)", x.account(10), 4);
        due.is("331", x.home(1), 2);
        due.is("27 goes on to 82", x.home(4), 2);
        due.is("weigh(2, 1), back", x.weigh(2, 1), 4);
        due.is("account(10)", x.account(10), 8);
        due.is("359", x.home(2), 1);
    }

    // ---- promise 6: berth

    private static void p06_9TonsIsOneBelowTheFirst_bad(Due due) {
        Twins.unchanged(due, "berth(9)", Starts::none, x -> x.berth(9), BAD);
        Twins.unchanged(due, "berth(9)", Starts::some, x -> x.berth(9), BAD);
    }

    private static void p06_10TonsAreTheFirstInRange(Due due) {
        PierRings x = Starts.withPiers(3);
        due.is("berth(10)", x.berth(10), 60);
        due.is("account(11)", x.account(11), 10);
        due.is("pierOf(0, 8)", x.pierOf(0, 8), 30);
    }

    private static void p06_200TonsAreTheLastInRange(Due due) {
        PierRings x = Starts.withPiers(3);
        due.is("berth(200)", x.berth(200), 60);
        due.is("account(11)", x.account(11), 200);
        due.is("pierOf(0, 8)", x.pierOf(0, 8), 600);
    }

    private static void p06_201TonsIsOneAboveTheLast_bad(Due due) {
        Twins.unchanged(due, "berth(201)", Starts::none, x -> x.berth(201), BAD);
        Twins.unchanged(due, "berth(201)", Starts::some, x -> x.berth(201), BAD);
    }

    private static void p06_tonsFarOutOfRange_bad(Due due) {
        PierRings x = new PierRings();
        for (int far : Starts.FAR) {
            due.is("berth(" + far + ")", x.berth(far), BAD);
        }
        due.is("account(11)", x.account(11), 60);
    }

    private static void p06_theSameTons_refusedForReason3WithTheTons(Due due) {
        Twins.refused(due, "berth(60), as at first", Starts::none, x -> x.berth(60), 3, 60);
        Twins.refused(due, "berth(10)", Starts::some, x -> x.berth(10), 3, 10);
        Twins.refused(due, "berth(50)", Starts::full, x -> x.berth(50), 3, 50);
        Twins.refused(due, "berth(200)", x -> x.berth(200), x -> x.berth(200), 3, 200);
    }

    private static void p06_theTonsBeforeAreReturned(Due due) {
        PierRings x = new PierRings();
        due.is("berth(200)", x.berth(200), 60);
        due.is("berth(10)", x.berth(10), 200);
        due.is("berth(60)", x.berth(60), 10);
        due.is("berth(61)", x.berth(61), 60);
    }

    private static void p06_theTonsThatLieMayBeTheRoomButNotOneMore(Due due) {
        PierRings x = Starts.withPiers(2);
        Starts.bargeAt(x, 0, 50);
        due.is("berth(25)", x.berth(25), 60);
        due.is("50 of 50", x.bargeOf(0, 3), 0);
        due.is("berth(24)", x.berth(24), 25);
        due.is("50 of 48", x.bargeOf(0, 3), NOTHING);
    }

    private static void p06_noHomeMoves(Due due) {
        PierRings x = Starts.withPiers(1, 1);
        Starts.bargeAt(x, 0, 60);
        due.is("berth(10)", x.berth(10), 60);
        due.is("home(0)", x.home(0), 0);
        due.is("account(10)", x.account(10), 0);
    }

    private static void p06_noPierIsThere(Due due) {
        PierRings x = new PierRings();
        due.is("berth(10)", x.berth(10), 60);
        due.is("a change", x.account(14), 1);
        x.pier(1);
        due.is("the room of one that joins then", x.pierOf(0, 8), 10);
    }

    // ---- promise 7: pierOf

    private static void p07_minus1IsOneBelowTheFirstPier_none(Due due) {
        Twins.unchanged(due, "pierOf(-1, 0)", Starts::some, x -> x.pierOf(-1, 0), NONE);
    }

    private static void p07_theFirstAndTheLastPierOf8(Due due) {
        PierRings x = new PierRings();
        Starts.eightPiersOf(x, 5);
        x.weigh(0, 1);
        x.weigh(7, 2);
        due.is("pierOf(0, 0)", x.pierOf(0, 0), 1);
        due.is("pierOf(7, 0)", x.pierOf(7, 0), 2);
    }

    private static void p07_oneAboveTheLastPier_none(Due due) {
        Twins.unchanged(due, "pierOf(3, 0)", Starts::some, x -> x.pierOf(3, 0), NONE);
        Twins.unchanged(due, "pierOf(8, 9)", Starts::full, x -> x.pierOf(8, 9), NONE);
    }

    private static void p07_noPierIsThere_none(Due due) {
        PierRings x = new PierRings();
        for (int what = 0; what <= 9; what++) {
            due.is("pierOf(0, " + what + ")", x.pierOf(0, what), NONE);
        }
    }

    private static void p07_whatMinus1IsOneBelowTheFirst_bad(Due due) {
        Twins.unchanged(due, "pierOf(0, -1)", Starts::some, x -> x.pierOf(0, -1), BAD);
    }

    private static void p07_what0IsTheFirstInRange(Due due) {
        Twins.unchanged(due, "pierOf(2, 0), the berths of a closed one", Starts::some, x -> x.pierOf(2, 0), 3);
    }

    private static void p07_what9IsTheLastInRange(Due due) {
        Twins.unchanged(due, "pierOf(0, 9), 31 tons of 20", Starts::some, x -> x.pierOf(0, 9), 1);
    }

    private static void p07_what10IsOneAboveTheLast_bad(Due due) {
        Twins.unchanged(due, "pierOf(0, 10)", Starts::some, x -> x.pierOf(0, 10), BAD);
    }

    private static void p07_numbersFarOutOfRange(Due due) {
        PierRings x = Starts.withPiers(2);
        for (int far : Starts.FAR) {
            due.is("pierOf(" + far + ", 0)", x.pierOf(far, 0), NONE);
            due.is("pierOf(0, " + far + ")", x.pierOf(0, far), BAD);
        }
    }

    private static void p07_noneIsListedAheadOfBad(Due due) {
        PierRings x = Starts.withPiers(2);
        due.is("pierOf(-1, -1)", x.pierOf(-1, -1), NONE);
        due.is("pierOf(1, 10)", x.pierOf(1, 10), NONE);
        due.is("pierOf(0, 10), no pier", new PierRings().pierOf(0, 10), NONE);
    }

    private static void p07_aClosedPierHasItsBerthsAloneAndIsNotHot(Due due) {
        PierRings x = Starts.withPiers(5, 1);
        Starts.twentyFourBarges(x);
        x.close(0);
        due.is("pierOf(0, 0)", x.pierOf(0, 0), 5);
        for (int what = 1; what <= 9; what++) {
            due.is("pierOf(0, " + what + ")", x.pierOf(0, what), 0);
        }
    }

    private static void p07_twicePointsAsBerths(Due due) {
        PierRings x = Starts.withPiers(1, 2, 3, 4, 5);
        for (int pier = 0; pier < 5; pier++) {
            due.is("pierOf(" + pier + ", 2)", x.pierOf(pier, 2), 2 * (pier + 1));
        }
    }

    private static void p07_theStretchOfTheOnlyOpenPierIs360(Due due) {
        PierRings x = Starts.withPiers(1, 1);
        x.close(0);
        due.is("pierOf(1, 3)", x.pierOf(1, 3), 360);
        x.weigh(1, 5);
        due.is("pierOf(1, 3), 5 berths", x.pierOf(1, 3), 360);
        due.is("pierOf(0, 3)", x.pierOf(0, 3), 0);
    }

    private static void p07_theStretchGoesOnBehind359(Due due) {
        PierRings x = Starts.withPiers(1, 1, 1);
        due.is("331 to 359, 0, and 1 to 56", x.pierOf(0, 3), 29 + 1 + 56);
        due.is("57 to 193", x.pierOf(1, 3), 137);
        due.is("194 to 330", x.pierOf(2, 3), 137);
        x.close(0);
        due.is("331 to 359, and 0 to 193", x.pierOf(1, 3), 29 + 194);
    }

    private static void p07_stretchesOf80PointsAre360Together(Due due) {
        PierRings x = new PierRings();
        Starts.eightPiersOf(x, 5);
        int all = 0;
        for (int pier = 0; pier < 8; pier++) {
            due.is("some points are at home at " + pier, x.pierOf(pier, 3) >= 10 ? 1 : 0, 1);
            all += x.pierOf(pier, 3);
        }
        due.is("all", all, 360);
        due.is("as many points as have it as their home", x.pierOf(0, 3), stretchByHomes(x, 0));
    }

    private static int stretchByHomes(PierRings x, int pier) {
        int stretch = 0;
        for (int point = 0; point < 360; point++) {
            stretch += x.homeOf(point) == pier ? 1 : 0;
        }
        return stretch;
    }

    private static void p07_noBargeAndAll24AtHomeAtOnePier(Due due) {
        PierRings x = Starts.withPiers(5);
        for (int what = 4; what <= 7; what++) {
            due.is("no barge: pierOf(0, " + what + ")", x.pierOf(0, what), 0);
        }
        Starts.twentyFourBarges(x);
        x.berth(200);
        due.is("pierOf(0, 4)", x.pierOf(0, 4), 24);
        due.is("pierOf(0, 5)", x.pierOf(0, 5), 1128);
        due.is("the first 22, as there is no room for 89 more: pierOf(0, 6)", x.pierOf(0, 6), 22);
        due.is("1 and 5 to 85 together: pierOf(0, 7)", x.pierOf(0, 7), 946);
    }

    private static void p07_tonsAsMuchAsTheRoomAreNotHotAndOneMoreIs(Due due) {
        PierRings x = Starts.withPiers(1);
        Starts.bargeAt(x, 0, 60);
        due.is("60 of 60", x.pierOf(0, 9), 0);
        x.load(0, 61);
        due.is("61 of 60", x.pierOf(0, 9), 1);
        x.load(0, 59);
        due.is("59 of 60", x.pierOf(0, 9), 0);
    }

    private static void p07_hotIsToldByHomesNotByWhatLies(Due due) {
        PierRings x = Starts.withPiers(1, 1);
        Starts.bargeAt(x, 0, 60);
        Starts.bargeAt(x, 1, 10);
        Starts.bargeAt(x, 137, 50);
        due.is("the pier 0 is hot", x.pierOf(0, 9), 1);
        due.is("60 lie there", x.pierOf(0, 7), 60);
        due.is("the pier 1 is not", x.pierOf(1, 9), 0);
        due.is("60 lie there too", x.pierOf(1, 7), 60);
    }

    private static void p07_askingLeavesAllAsItWas(Due due) {
        Twins.asked(due, "pierOf", x -> {
            for (int pier = 0; pier <= 7; pier++) {
                for (int what = 0; what <= 9; what++) {
                    x.pierOf(pier, what);
                }
            }
        });
    }

    // ---- promise 8: neighbours

    private static void p08_minus1IsOneBelowTheFirstPier_none(Due due) {
        Twins.unchanged(due, "neighbours(-1)", Starts::some, x -> x.neighbours(-1), NONE);
    }

    private static void p08_oneAboveTheLastPier_none(Due due) {
        Twins.unchanged(due, "neighbours(3)", Starts::some, x -> x.neighbours(3), NONE);
        Twins.unchanged(due, "neighbours(8)", Starts::full, x -> x.neighbours(8), NONE);
    }

    private static void p08_noPierIsThere_none(Due due) {
        due.is("neighbours(0)", new PierRings().neighbours(0), NONE);
    }

    private static void p08_pierFarOutOfRange_none(Due due) {
        PierRings x = Starts.withPiers(2, 2);
        for (int far : Starts.FAR) {
            due.is("neighbours(" + far + ")", x.neighbours(far), NONE);
        }
    }

    private static void p08_aClosedPier_0(Due due) {
        Twins.unchanged(due, "neighbours(2)", Starts::some, x -> x.neighbours(2), 0);
        Twins.unchanged(due, "neighbours(3)", Starts::full, x -> x.neighbours(3), 0);
    }

    private static void p08_theOnlyPier_0(Due due) {
        due.is("neighbours(0)", Starts.withPiers(5).neighbours(0), 0);
    }

    private static void p08_noOtherOpenPier_0(Due due) {
        PierRings x = Starts.withPiers(3, 3, 3);
        x.close(0);
        x.close(2);
        due.is("neighbours(1)", x.neighbours(1), 0);
    }

    private static void p08_aNeighbourBehind359(Due due) {
        PierRings x = Starts.withPiers(1, 1, 1);
        due.is("274 and 330, then 0 of the pier 0", x.neighbours(2), 1);
        x.close(0);
        due.is("274 and 330, then 137 of the pier 1", x.neighbours(2), 2);
        due.is("137 and 193, then 274 of the pier 2", x.neighbours(1), 4);
    }

    private static void p08_theFirstAndTheLastBit(Due due) {
        PierRings x = new PierRings();
        Starts.eightPiersOf(x, 1);
        for (int pier = 1; pier < 7; pier++) {
            x.close(pier);
        }
        due.is("0 and 56, then 239 of the pier 7", x.neighbours(0), 128);
        due.is("239 and 295, then 0 of the pier 0", x.neighbours(7), 1);
    }

    private static void p08_eightOpenPiers(Due due) {
        PierRings x = new PierRings();
        Starts.eightPiersOf(x, 1);
        int[] behind = {
            1 << 5 | 1 << 6,
            1 << 6 | 1 << 7,
            1 << 7 | 1 << 0,
            1 << 0 | 1 << 1,
            1 << 1 | 1 << 2,
            1 << 2 | 1 << 3,
            1 << 3 | 1 << 4,
            1 << 4 | 1 << 5,
        };
        for (int pier = 0; pier < 8; pier++) {
            due.is("neighbours(" + pier + ")", x.neighbours(pier), behind[pier]);
        }
    }

    private static void p08_twoPointsSideBySideOfOnePierLookOnToTheNextPier(Due due) {
        PierRings x = Starts.withPiers(5, 1);
        due.is("112, 137 and 168, 193, and 336, 0 again", x.neighbours(1), 1);
        due.is("0, 32, 56, 88, 112, then 137", x.neighbours(0), 2);
        due.is("the pier 0 has most", x.pierOf(0, 3), 360 - 25 - 25);
    }

    private static void p08_askingLeavesAllAsItWas(Due due) {
        Twins.asked(due, "neighbours", x -> {
            for (int pier = 0; pier <= 7; pier++) {
                x.neighbours(pier);
            }
        });
    }
}
