/**
 * Promises 9 to 15 at their edges, a case for each. With one berth each the piers 0, 1, 2 have the points 0 and 56,
 * 137 and 193, 274 and 330.
 */
public final class EdgesOfBargesTest {
    private static final int NONE = PierRings.NONE;
    private static final int BAD = PierRings.BAD;
    private static final int REFUSED = PierRings.REFUSED;
    private static final int NOTHING = PierRings.NOTHING;

    public static void main(String[] args) {
        Cases.run(EdgesOfBargesTest.class, 9, 15, args);
    }

    private static void allBarges(PierRings x) {
        Starts.twentyFourBarges(x);
    }

    // ---- promise 9: barge

    private static void p09_theNameMinus1IsOneBelowTheFirst_bad(Due due) {
        Twins.unchanged(due, "barge(-1, 5)", Starts::none, x -> x.barge(-1, 5), BAD);
        Twins.unchanged(due, "barge(-1, 5)", Starts::some, x -> x.barge(-1, 5), BAD);
    }

    private static void p09_theName0IsTheFirstInRange(Due due) {
        PierRings x = new PierRings();
        due.is("barge(0, 5)", x.barge(0, 5), 0);
        due.is("its name", x.bargeOf(0, 0), 0);
    }

    private static void p09_theName9999IsTheLastInRange(Due due) {
        PierRings x = new PierRings();
        due.is("barge(9999, 5)", x.barge(9999, 5), 0);
        due.is("its name", x.bargeOf(0, 0), 9999);
    }

    private static void p09_theName10000IsOneAboveTheLast_bad(Due due) {
        Twins.unchanged(due, "barge(10000, 5)", Starts::none, x -> x.barge(10000, 5), BAD);
        Twins.unchanged(due, "barge(10000, 5)", Starts::some, x -> x.barge(10000, 5), BAD);
    }

    private static void p09_0TonsIsOneBelowTheFirst_bad(Due due) {
        Twins.unchanged(due, "barge(5, 0)", Starts::none, x -> x.barge(5, 0), BAD);
        Twins.unchanged(due, "barge(5, 0)", Starts::some, x -> x.barge(5, 0), BAD);
    }

    private static void p09_1TonIsTheFirstInRange(Due due) {
        PierRings x = new PierRings();
        due.is("barge(5, 1)", x.barge(5, 1), 0);
        due.is("its tons", x.bargeOf(0, 1), 1);
    }

    private static void p09_99TonsAreTheLastInRange(Due due) {
        PierRings x = new PierRings();
        due.is("barge(5, 99)", x.barge(5, 99), 0);
        due.is("its tons", x.bargeOf(0, 1), 99);
    }

    private static void p09_100TonsIsOneAboveTheLast_bad(Due due) {
        Twins.unchanged(due, "barge(5, 100)", Starts::none, x -> x.barge(5, 100), BAD);
        Twins.unchanged(due, "barge(5, 100)", Starts::some, x -> x.barge(5, 100), BAD);
    }

    private static void p09_numbersFarOutOfRange_bad(Due due) {
        PierRings x = new PierRings();
        for (int far : Starts.FAR) {
            due.is("barge(" + far + ", 5)", x.barge(far, 5), BAD);
            due.is("barge(5, " + far + ")", x.barge(5, far), BAD);
            due.is("barge(" + far + ", " + far + ")", x.barge(far, far), BAD);
        }
        due.is("account(3)", x.account(3), 0);
    }

    private static void p09_theNameIsThere_refusedForReason2WithItsNumber(Due due) {
        Twins.refused(due, "the first one", Starts::some, x -> x.barge(Due.nameAt(1), 5), 2, 0);
        Twins.refused(due, "the last one", Starts::some, x -> x.barge(Due.nameAt(193), 99), 2, 3);
        Twins.refused(due, "with the same tons", Starts::some, x -> x.barge(Due.nameAt(57), 2), 2, 1);
    }

    private static void p09_anotherNameWithTheSamePointMayCome(Due due) {
        PierRings x = new PierRings();
        due.is("barge(0, 5)", x.barge(0, 5), 0);
        due.is("barge(360, 5)", x.barge(360, 5), 1);
        due.is("the same point", x.bargeOf(1, 2), x.bargeOf(0, 2));
    }

    private static void p09_theFirstBargeIsTheNumber0(Due due) {
        PierRings x = Starts.withPiers(1);
        due.is("barge(7, 5)", x.barge(7, 5), 0);
        due.is("account(3)", x.account(3), 1);
    }

    private static void p09_the24thBargeIsTheNumber23(Due due) {
        PierRings x = new PierRings();
        allBarges(x);
        x.leave(0);
        due.is("barge(9999, 99)", x.barge(9999, 99), 23);
        due.is("account(3)", x.account(3), 24);
        due.is("its name", x.bargeOf(23, 0), 9999);
        due.is("no reason", x.reason(false), NOTHING);
    }

    private static void p09_the25thBarge_refusedForReason1With24(Due due) {
        Twins.refused(due, "barge(1, 1)", Starts::full, x -> x.barge(1, 1), 1, 24);
        Twins.refused(due, "barge(9999, 99), no pier", EdgesOfBargesTest::allBarges, x -> x.barge(9999, 99), 1, 24);
    }

    private static void p09_theNameIsAskedAheadOfHowManyThereAre(Due due) {
        Twins.refused(due, "the first name", Starts::full, x -> x.barge(0, 1), 2, 0);
        Twins.refused(due, "the last name", Starts::full, x -> x.barge(401 * 23, 1), 2, 23);
    }

    private static void p09_badIsListedAheadOfRefused(Due due) {
        Twins.unchanged(due, "a name that is there, 0 tons", Starts::some, x -> x.barge(Due.nameAt(1), 0), BAD);
        Twins.unchanged(due, "a name that is there, 100 tons", Starts::some, x -> x.barge(Due.nameAt(1), 100), BAD);
        Twins.unchanged(due, "the 25th, the name -1", Starts::full, x -> x.barge(-1, 1), BAD);
        Twins.unchanged(due, "the 25th, the name 10000", Starts::full, x -> x.barge(10000, 1), BAD);
        Twins.unchanged(due, "the 25th, 0 tons", Starts::full, x -> x.barge(1, 0), BAD);
        Twins.unchanged(due, "the 25th, 100 tons", Starts::full, x -> x.barge(1, 100), BAD);
    }

    private static void p09_noPierIsThere_itComesAndLiesNowhere(Due due) {
        PierRings x = new PierRings();
        due.is("barge(0, 1)", x.barge(0, 1), 0);
        due.is("bargeOf(0, 3)", x.bargeOf(0, 3), NOTHING);
    }

    private static void p09_noRoomIsLeft_itComesAllTheSame(Due due) {
        PierRings x = Starts.withPiers(1);
        x.barge(0, 60);
        due.is("barge(1, 1)", x.barge(1, 1), 1);
        due.is("bargeOf(1, 3)", x.bargeOf(1, 3), NOTHING);
    }

    private static void p09_noHomeMovesByIt(Due due) {
        PierRings x = Starts.withPiers(1);
        x.barge(0, 60);
        due.is("account(10)", x.account(10), 0);
    }

    // ---- promise 10: leave

    private static void p10_minus1IsOneBelowTheFirstBarge_none(Due due) {
        Twins.unchanged(due, "leave(-1)", Starts::some, x -> x.leave(-1), NONE);
        Twins.unchanged(due, "leave(-1)", Starts::full, x -> x.leave(-1), NONE);
    }

    private static void p10_oneAboveTheLastBarge_none(Due due) {
        Twins.unchanged(due, "leave(4)", Starts::some, x -> x.leave(4), NONE);
        Twins.unchanged(due, "leave(24)", Starts::full, x -> x.leave(24), NONE);
    }

    private static void p10_noBargeIsThere_none(Due due) {
        Twins.unchanged(due, "leave(0)", Starts::none, x -> x.leave(0), NONE);
        Twins.unchanged(due, "leave(0)", Starts::eightPiers, x -> x.leave(0), NONE);
    }

    private static void p10_bargeFarOutOfRange_none(Due due) {
        PierRings x = new PierRings();
        x.barge(0, 1);
        for (int far : Starts.FAR) {
            due.is("leave(" + far + ")", x.leave(far), NONE);
        }
        due.is("account(3)", x.account(3), 1);
    }

    private static void p10_theFirstOf24_allLaterNumbersBecome1Less(Due due) {
        PierRings x = new PierRings();
        allBarges(x);
        due.is("leave(0)", x.leave(0), 23);
        for (int barge = 0; barge < 23; barge++) {
            due.is("the name of " + barge, x.bargeOf(barge, 0), 401 * (barge + 1));
            due.is("the tons of " + barge, x.bargeOf(barge, 1), 1 + 4 * (barge + 1));
        }
        due.is("bargeOf(23, 0)", x.bargeOf(23, 0), NONE);
    }

    private static void p10_oneAmong24_earlierNumbersStay(Due due) {
        PierRings x = new PierRings();
        allBarges(x);
        due.is("leave(12)", x.leave(12), 23);
        for (int barge = 0; barge < 23; barge++) {
            int was = barge < 12 ? barge : barge + 1;
            due.is("the name of " + barge, x.bargeOf(barge, 0), 401 * was);
            due.is("the tons of " + barge, x.bargeOf(barge, 1), 1 + 4 * was);
        }
    }

    private static void p10_the24th_noOtherNumberChanges(Due due) {
        PierRings x = new PierRings();
        allBarges(x);
        due.is("leave(23)", x.leave(23), 23);
        for (int barge = 0; barge < 23; barge++) {
            due.is("the name of " + barge, x.bargeOf(barge, 0), 401 * barge);
        }
        due.is("bargeOf(23, 0)", x.bargeOf(23, 0), NONE);
        due.is("leave(23) again", x.leave(23), NONE);
    }

    private static void p10_theOnlyBarge_0(Due due) {
        PierRings x = Starts.withPiers(1);
        x.barge(5, 5);
        due.is("leave(0)", x.leave(0), 0);
        due.is("account(3)", x.account(3), 0);
        due.is("account(8)", x.account(8), 0);
    }

    private static void p10_oneOf24Leaves_anotherMayCome(Due due) {
        PierRings x = new PierRings();
        allBarges(x);
        x.leave(23);
        due.is("the same name is free", x.barge(401 * 23, 7), 23);
        due.is("barge(1, 1)", x.barge(1, 1), REFUSED);
    }

    private static void p10_aLaterBargeTakesTheRoom(Due due) {
        PierRings x = Starts.withPiers(1);
        x.barge(1, 60);
        x.barge(2, 60);
        due.is("leave(0)", x.leave(0), 1);
        due.is("it lies now", x.bargeOf(0, 3), 0);
    }

    // ---- promise 11: load

    private static void p11_minus1IsOneBelowTheFirstBarge_none(Due due) {
        Twins.unchanged(due, "load(-1, 5)", Starts::some, x -> x.load(-1, 5), NONE);
        Twins.unchanged(due, "load(-1, 5)", Starts::full, x -> x.load(-1, 5), NONE);
    }

    private static void p11_oneAboveTheLastBarge_none(Due due) {
        Twins.unchanged(due, "load(4, 5)", Starts::some, x -> x.load(4, 5), NONE);
        Twins.unchanged(due, "load(24, 5)", Starts::full, x -> x.load(24, 5), NONE);
    }

    private static void p11_noBargeIsThere_none(Due due) {
        Twins.unchanged(due, "load(0, 5)", Starts::none, x -> x.load(0, 5), NONE);
    }

    private static void p11_theFirstAndTheLastBargeOf24(Due due) {
        PierRings x = new PierRings();
        allBarges(x);
        due.is("load(0, 99)", x.load(0, 99), 1);
        due.is("load(23, 1)", x.load(23, 1), 93);
        due.is("bargeOf(0, 1)", x.bargeOf(0, 1), 99);
        due.is("bargeOf(23, 1)", x.bargeOf(23, 1), 1);
    }

    private static void p11_0TonsIsOneBelowTheFirst_bad(Due due) {
        Twins.unchanged(due, "load(0, 0)", Starts::some, x -> x.load(0, 0), BAD);
    }

    private static void p11_1TonIsTheFirstInRange(Due due) {
        PierRings x = new PierRings();
        x.barge(3, 2);
        due.is("load(0, 1)", x.load(0, 1), 2);
        due.is("its tons", x.bargeOf(0, 1), 1);
    }

    private static void p11_99TonsAreTheLastInRange(Due due) {
        PierRings x = new PierRings();
        x.barge(3, 98);
        due.is("load(0, 99)", x.load(0, 99), 98);
        due.is("its tons", x.bargeOf(0, 1), 99);
    }

    private static void p11_100TonsIsOneAboveTheLast_bad(Due due) {
        Twins.unchanged(due, "load(0, 100)", Starts::some, x -> x.load(0, 100), BAD);
    }

    private static void p11_numbersFarOutOfRange(Due due) {
        PierRings x = new PierRings();
        x.barge(3, 7);
        for (int far : Starts.FAR) {
            due.is("load(" + far + ", 5)", x.load(far, 5), NONE);
            due.is("load(0, " + far + ")", x.load(0, far), BAD);
        }
        due.is("its tons", x.bargeOf(0, 1), 7);
    }

    private static void p11_noneIsListedAheadOfBad(Due due) {
        Twins.unchanged(due, "load(-1, 0)", Starts::some, x -> x.load(-1, 0), NONE);
        Twins.unchanged(due, "load(4, 100)", Starts::some, x -> x.load(4, 100), NONE);
        Twins.unchanged(due, "load(0, 0)", Starts::none, x -> x.load(0, 0), NONE);
    }

    private static void p11_theSameTons_refusedForReason3WithTheTons(Due due) {
        Twins.refused(due, "load(0, 20)", Starts::some, x -> x.load(0, 20), 3, 20);
        Twins.refused(due, "load(0, 1)", Starts::full, x -> x.load(0, 1), 3, 1);
        Twins.refused(due, "load(23, 93)", Starts::full, x -> x.load(23, 93), 3, 93);
    }

    private static void p11_asMuchAsTheRoomLiesAndOneMoreDoesNot(Due due) {
        PierRings x = Starts.withPiers(1);
        x.barge(3, 5);
        due.is("load(0, 60)", x.load(0, 60), 5);
        due.is("60 of 60", x.bargeOf(0, 3), 0);
        due.is("load(0, 61)", x.load(0, 61), 60);
        due.is("61 of 60", x.bargeOf(0, 3), NOTHING);
    }

    // ---- promise 12: bargeOf

    private static void p12_minus1IsOneBelowTheFirstBarge_none(Due due) {
        Twins.unchanged(due, "bargeOf(-1, 0)", Starts::some, x -> x.bargeOf(-1, 0), NONE);
    }

    private static void p12_theFirstAndTheLastBargeOf24(Due due) {
        Twins.unchanged(due, "bargeOf(0, 1)", Starts::full, x -> x.bargeOf(0, 1), 1);
        Twins.unchanged(due, "bargeOf(23, 1)", Starts::full, x -> x.bargeOf(23, 1), 93);
    }

    private static void p12_oneAboveTheLastBarge_none(Due due) {
        Twins.unchanged(due, "bargeOf(4, 0)", Starts::some, x -> x.bargeOf(4, 0), NONE);
        Twins.unchanged(due, "bargeOf(24, 0)", Starts::full, x -> x.bargeOf(24, 0), NONE);
    }

    private static void p12_noBargeIsThere_none(Due due) {
        PierRings x = new PierRings();
        for (int what = 0; what <= 4; what++) {
            due.is("bargeOf(0, " + what + ")", x.bargeOf(0, what), NONE);
        }
    }

    private static void p12_whatMinus1IsOneBelowTheFirst_bad(Due due) {
        Twins.unchanged(due, "bargeOf(0, -1)", Starts::some, x -> x.bargeOf(0, -1), BAD);
    }

    private static void p12_what0IsTheFirstInRange(Due due) {
        Twins.unchanged(due, "bargeOf(3, 0)", Starts::some, x -> x.bargeOf(3, 0), Due.nameAt(193));
    }

    private static void p12_what4IsTheLastInRange(Due due) {
        Twins.unchanged(due, "bargeOf(2, 4)", Starts::some, x -> x.bargeOf(2, 4), 6);
    }

    private static void p12_what5IsOneAboveTheLast_bad(Due due) {
        Twins.unchanged(due, "bargeOf(0, 5)", Starts::some, x -> x.bargeOf(0, 5), BAD);
    }

    private static void p12_numbersFarOutOfRange(Due due) {
        PierRings x = new PierRings();
        x.barge(3, 7);
        for (int far : Starts.FAR) {
            due.is("bargeOf(" + far + ", 0)", x.bargeOf(far, 0), NONE);
            due.is("bargeOf(0, " + far + ")", x.bargeOf(0, far), BAD);
        }
    }

    private static void p12_noneIsListedAheadOfBad(Due due) {
        PierRings x = new PierRings();
        due.is("bargeOf(0, 5), no barge", x.bargeOf(0, 5), NONE);
        x.barge(3, 7);
        due.is("bargeOf(-1, -1)", x.bargeOf(-1, -1), NONE);
        due.is("bargeOf(1, 5)", x.bargeOf(1, 5), NONE);
    }

    private static void p12_thePointsOfTheFirstAndTheLastName(Due due) {
        PierRings x = new PierRings();
        x.barge(0, 1);
        x.barge(9999, 1);
        due.is("11", x.bargeOf(0, 2), 11);
        due.is("369974 less 1027 times 360", x.bargeOf(1, 2), 254);
    }

    private static void p12_thePointIs359AndTheNextOneIs0(Due due) {
        PierRings x = new PierRings();
        x.barge(204, 1);
        x.barge(97, 1);
        x.barge(350, 1);
        due.is("37 times 204 and 11 are 7559, 359 more than 20 times 360", x.bargeOf(0, 2), 359);
        due.is("37 times 97 and 11 are 3600, 10 times 360", x.bargeOf(1, 2), 0);
        due.is("37 times 350 and 11 are 12961, 1 more than 36 times 360", x.bargeOf(2, 2), 1);
    }

    private static void p12_atItsFirstPoint_itPassesNone(Due due) {
        PierRings x = Starts.withPiers(1, 1);
        Starts.bargeAt(x, 137, 60);
        due.is("at the point itself", x.bargeOf(0, 3), 1);
        due.is("it passes", x.bargeOf(0, 4), 0);
    }

    private static void p12_oneBehindAPoint_thatOneIsNotPassed(Due due) {
        PierRings x = Starts.withPiers(1, 1);
        Starts.bargeAt(x, 194, 60);
        due.is("at 0", x.bargeOf(0, 3), 0);
        due.is("it passes", x.bargeOf(0, 4), 0);
    }

    private static void p12_itGoesOnBehind359(Due due) {
        PierRings x = Starts.withPiers(1, 1, 1);
        Starts.bargeAt(x, 274, 60);
        Starts.bargeAt(x, 0, 60);
        Starts.bargeAt(x, 330, 60);
        due.is("from 330 on to 137", x.bargeOf(2, 3), 1);
        due.is("it passes 330, 0 and 56", x.bargeOf(2, 4), 3);
    }

    private static void p12_behindTheLastPoint_itBeginsWithTheLowestOne(Due due) {
        PierRings x = Starts.withPiers(1, 1, 1);
        Starts.bargeAt(x, 331, 60);
        Starts.bargeAt(x, 359, 60);
        due.is("331, at 0", x.bargeOf(0, 3), 0);
        due.is("it passes none", x.bargeOf(0, 4), 0);
        due.is("359, at 137", x.bargeOf(1, 3), 1);
        due.is("it passes 0 and 56", x.bargeOf(1, 4), 2);
        x.close(0);
        due.is("331, at 137", x.bargeOf(0, 3), 1);
        due.is("it passes none", x.bargeOf(0, 4), 0);
        due.is("359, at 274", x.bargeOf(1, 3), 2);
        due.is("it passes 137 and 193", x.bargeOf(1, 4), 2);
    }

    private static void p12_behindTheLastOf80Points_itBeginsWithTheLowestOne(Due due) {
        PierRings x = new PierRings();
        Starts.eightPiersOf(x, 5);
        Starts.bargeAt(x, 357, 5);
        Starts.bargeAt(x, 358, 5);
        Starts.bargeAt(x, 359, 5);
        int[] piers = {5, 0, 0};
        for (int barge = 0; barge < 3; barge++) {
            due.is("the pier", x.bargeOf(barge, 3), piers[barge]);
            due.is("it passes none", x.bargeOf(barge, 4), 0);
            due.is("home", x.home(barge), piers[barge]);
            due.is("homeAgain", x.homeAgain(barge), piers[barge]);
        }
    }

    private static void p12_theLastPierOnItsWayHasRoom(Due due) {
        PierRings x = Starts.withPiers(5, 1);
        x.berth(10);
        Starts.bargeAt(x, 300, 50);
        Starts.bargeAt(x, 194, 10);
        due.is("the pier 0 is full", x.pierOf(0, 7), 50);
        due.is("137, of the pier 1", x.bargeOf(1, 3), 1);
        due.is("it passes 224, 280, 336, 0, 32, 56, 88, 112", x.bargeOf(1, 4), 8);
        x.load(1, 11);
        due.is("one ton more than the last one has room for", x.bargeOf(1, 3), NOTHING);
        due.is("it passes all 12", x.bargeOf(1, 4), 12);
    }

    private static void p12_itGoesOnceAroundAndNotOnFromItsOwnPoint(Due due) {
        PierRings x = Starts.withPiers(1);
        Starts.bargeAt(x, 56, 61);
        due.is("56 and 0", x.bargeOf(0, 4), 2);
    }

    private static void p12_nowhere_allPointsArePassed(Due due) {
        PierRings x = Starts.withPiers(1, 1);
        Starts.bargeAt(x, 300, 61);
        due.is("nowhere", x.bargeOf(0, 3), NOTHING);
        due.is("all 4", x.bargeOf(0, 4), 4);
        x.weigh(0, 5);
        due.is("it lies with 5 berths", x.bargeOf(0, 3), 0);
    }

    private static void p12_nowhereAmong80Points_all80ArePassed(Due due) {
        PierRings x = new PierRings();
        Starts.eightPiersOf(x, 5);
        x.berth(10);
        x.barge(9999, 99);
        due.is("nowhere", x.bargeOf(0, 3), NOTHING);
        due.is("all 80", x.bargeOf(0, 4), 80);
    }

    private static void p12_noPierIsOpen_nowhereAndNonePassed(Due due) {
        PierRings x = Starts.withPiers(3);
        x.barge(3, 1);
        x.close(0);
        due.is("nowhere", x.bargeOf(0, 3), NOTHING);
        due.is("none passed", x.bargeOf(0, 4), 0);
        due.is("its tons stay", x.bargeOf(0, 1), 1);
    }

    private static void p12_theTonsThatLieAndItsOwnMayBeTheRoom(Due due) {
        PierRings x = Starts.withPiers(1);
        Starts.bargeAt(x, 0, 50);
        Starts.bargeAt(x, 1, 10);
        Starts.bargeAt(x, 2, 1);
        due.is("60 of 60", x.bargeOf(1, 3), 0);
        due.is("61 of 60", x.bargeOf(2, 3), NOTHING);
        x.load(1, 11);
        due.is("61 of 60", x.bargeOf(1, 3), NOTHING);
        due.is("51 of 60", x.bargeOf(2, 3), 0);
    }

    private static void p12_theLowerNumberLiesFirstThoughItIsFarther(Due due) {
        PierRings x = Starts.withPiers(1);
        Starts.bargeAt(x, 57, 60);
        Starts.bargeAt(x, 0, 60);
        due.is("the first one", x.bargeOf(0, 3), 0);
        due.is("the second one", x.bargeOf(1, 3), NOTHING);
    }

    private static void p12_pointsOfOnePierAreEachPassedByThemselves(Due due) {
        PierRings x = Starts.withPiers(2, 1);
        Starts.bargeAt(x, 300, 99);
        Starts.bargeAt(x, 0, 22);
        due.is("121 are more than 120", x.bargeOf(1, 3), 1);
        due.is("0, 56 and 112 of the pier 0", x.bargeOf(1, 4), 3);
    }

    private static void p12_itLiesAtAnotherPierThanItsHome_itPassedAPointOfItsHome(Due due) {
        PierRings x = new PierRings();
        Starts.full(x);
        int elsewhere = 0;
        for (int barge = 0; barge < 24; barge++) {
            if (x.bargeOf(barge, 3) >= 0 && x.bargeOf(barge, 3) != x.home(barge)) {
                due.is("it passed a point, the barge " + barge, x.bargeOf(barge, 4) > 0 ? 1 : 0, 1);
                elsewhere++;
            } else {
                int passed = x.bargeOf(barge, 3) == NOTHING ? x.account(2) : 0;
                due.is("it passed none, or all, the barge " + barge, x.bargeOf(barge, 4), passed);
            }
        }
        due.is("those that lie elsewhere", x.account(5), elsewhere);
        due.is("some of them lie elsewhere", elsewhere > 0 ? 1 : 0, 1);
    }

    private static void p12_askingLeavesAllAsItWas(Due due) {
        Twins.asked(due, "bargeOf", x -> {
            for (int barge = 0; barge <= 23; barge++) {
                for (int what = 0; what <= 4; what++) {
                    x.bargeOf(barge, what);
                }
            }
        });
    }

    // ---- promises 13 and 14: home, homeAgain

    private static void p13_minus1IsOneBelowTheFirstBarge_none(Due due) {
        Twins.unchanged(due, "home(-1)", Starts::some, x -> x.home(-1), NONE);
    }

    private static void p14_minus1IsOneBelowTheFirstBarge_none(Due due) {
        Twins.unchanged(due, "homeAgain(-1)", Starts::some, x -> x.homeAgain(-1), NONE);
    }

    private static void p13_theFirstAndTheLastBargeOf24(Due due) {
        PierRings x = Starts.withPiers(1);
        allBarges(x);
        due.is("home(0)", x.home(0), 0);
        due.is("home(23)", x.home(23), 0);
    }

    private static void p14_theFirstAndTheLastBargeOf24(Due due) {
        PierRings x = Starts.withPiers(1);
        allBarges(x);
        due.is("homeAgain(0)", x.homeAgain(0), 0);
        due.is("homeAgain(23)", x.homeAgain(23), 0);
    }

    private static void p13_oneAboveTheLastBarge_none(Due due) {
        Twins.unchanged(due, "home(4)", Starts::some, x -> x.home(4), NONE);
        Twins.unchanged(due, "home(24)", Starts::full, x -> x.home(24), NONE);
    }

    private static void p14_oneAboveTheLastBarge_none(Due due) {
        Twins.unchanged(due, "homeAgain(4)", Starts::some, x -> x.homeAgain(4), NONE);
        Twins.unchanged(due, "homeAgain(24)", Starts::full, x -> x.homeAgain(24), NONE);
    }

    private static void p13_noBargeIsThere_noneAheadOfNothing(Due due) {
        due.is("home(0), no pier either", new PierRings().home(0), NONE);
        due.is("home(0)", Starts.withPiers(1).home(0), NONE);
    }

    private static void p14_noBargeIsThere_noneAheadOfNothing(Due due) {
        due.is("homeAgain(0), no pier either", new PierRings().homeAgain(0), NONE);
        due.is("homeAgain(0)", Starts.withPiers(1).homeAgain(0), NONE);
    }

    private static void p13_bargeFarOutOfRange_none(Due due) {
        PierRings x = new PierRings();
        x.barge(3, 7);
        for (int far : Starts.FAR) {
            due.is("home(" + far + ")", x.home(far), NONE);
        }
    }

    private static void p14_bargeFarOutOfRange_none(Due due) {
        PierRings x = new PierRings();
        x.barge(3, 7);
        for (int far : Starts.FAR) {
            due.is("homeAgain(" + far + ")", x.homeAgain(far), NONE);
        }
    }

    private static void p13_noPierIsOpen_nothing(Due due) {
        Twins.unchanged(due, "home(0), no pier", EdgesOfBargesTest::allBarges, x -> x.home(0), NOTHING);
        Twins.unchanged(due, "home(23), closed", EdgesOfBargesTest::allBargesAndAClosedPier, x -> x.home(23), NOTHING);
    }

    private static void p14_noPierIsOpen_nothing(Due due) {
        Twins.unchanged(due, "homeAgain(0), no pier", EdgesOfBargesTest::allBarges, x -> x.homeAgain(0), NOTHING);
        Twins.unchanged(due, "homeAgain(23), closed", EdgesOfBargesTest::allBargesAndAClosedPier, x -> x.homeAgain(23),
            NOTHING);
    }

    private static void allBargesAndAClosedPier(PierRings x) {
        x.pier(5);
        x.close(0);
        allBarges(x);
    }

    /** The points at, one before and one behind each point of a pier, and at both ends of the ring. */
    private static final int[] POINTS = {359, 0, 1, 55, 56, 57, 136, 137, 138, 192, 193, 194, 273, 274, 275, 329, 330, 331};
    private static final int[] HOMES = {0, 0, 0, 0, 0, 1, 1, 1, 1, 1, 1, 2, 2, 2, 2, 2, 2, 0};
    private static final int[] HOMES_WITHOUT_0 = {1, 1, 1, 1, 1, 1, 1, 1, 1, 1, 1, 2, 2, 2, 2, 2, 2, 1};
    private static final int[] HOMES_WITHOUT_2 = {0, 0, 0, 0, 0, 1, 1, 1, 1, 1, 1, 0, 0, 0, 0, 0, 0, 0};

    private static PierRings withBargesAtPoints() {
        PierRings x = Starts.withPiers(1, 1, 1);
        for (int point : POINTS) {
            Starts.bargeAt(x, point, 60);
        }
        return x;
    }

    private static void p13_atAPointItselfOneBeforeAndOneBehind(Due due) {
        PierRings x = withBargesAtPoints();
        for (int barge = 0; barge < POINTS.length; barge++) {
            due.is("home at " + POINTS[barge], x.home(barge), HOMES[barge]);
        }
    }

    private static void p14_atAPointItselfOneBeforeAndOneBehind(Due due) {
        PierRings x = withBargesAtPoints();
        for (int barge = 0; barge < POINTS.length; barge++) {
            due.is("homeAgain at " + POINTS[barge], x.homeAgain(barge), HOMES[barge]);
        }
    }

    private static void p13_behind359ThePierWithTheLowestPoint(Due due) {
        PierRings x = withBargesAtPoints();
        x.close(0);
        for (int barge = 0; barge < POINTS.length; barge++) {
            due.is("home at " + POINTS[barge], x.home(barge), HOMES_WITHOUT_0[barge]);
        }
        x.open(0);
        x.close(2);
        for (int barge = 0; barge < POINTS.length; barge++) {
            due.is("home at " + POINTS[barge], x.home(barge), HOMES_WITHOUT_2[barge]);
        }
    }

    private static void p14_behind359ThePierWithTheLowestPoint(Due due) {
        PierRings x = withBargesAtPoints();
        x.close(0);
        for (int barge = 0; barge < POINTS.length; barge++) {
            due.is("homeAgain at " + POINTS[barge], x.homeAgain(barge), HOMES_WITHOUT_0[barge]);
        }
        x.open(0);
        x.close(2);
        for (int barge = 0; barge < POINTS.length; barge++) {
            due.is("homeAgain at " + POINTS[barge], x.homeAgain(barge), HOMES_WITHOUT_2[barge]);
        }
    }

    private static void p13_theOnlyOpenPierIsTheHomeOfAll(Due due) {
        PierRings x = withBargesAtPoints();
        x.close(0);
        x.close(2);
        for (int barge = 0; barge < POINTS.length; barge++) {
            due.is("home at " + POINTS[barge], x.home(barge), 1);
        }
    }

    private static void p14_theOnlyOpenPierIsTheHomeOfAll(Due due) {
        PierRings x = withBargesAtPoints();
        x.close(0);
        x.close(2);
        for (int barge = 0; barge < POINTS.length; barge++) {
            due.is("homeAgain at " + POINTS[barge], x.homeAgain(barge), 1);
        }
    }

    private static void p13_askingLeavesAllAsItWas(Due due) {
        Twins.asked(due, "home", x -> {
            for (int barge = 0; barge <= 23; barge++) {
                x.home(barge);
            }
        });
    }

    private static void p14_askingLeavesAllAsItWas(Due due) {
        Twins.asked(due, "homeAgain", x -> {
            for (int barge = 0; barge <= 23; barge++) {
                x.homeAgain(barge);
            }
        });
    }

    // ---- promise 15: homeOf

    private static void p15_minus1IsOneBelowTheFirstPoint_none(Due due) {
        Twins.unchanged(due, "homeOf(-1)", Starts::some, x -> x.homeOf(-1), NONE);
        Twins.unchanged(due, "homeOf(-1)", Starts::full, x -> x.homeOf(-1), NONE);
    }

    private static void p15_0IsTheFirstPoint(Due due) {
        due.is("homeOf(0)", Starts.withPiers(1, 1).homeOf(0), 0);
        PierRings x = Starts.withPiers(1, 1);
        x.close(0);
        due.is("homeOf(0), the pier 0 is closed", x.homeOf(0), 1);
    }

    private static void p15_359IsTheLastPointAndGoesOnTo0(Due due) {
        PierRings x = Starts.withPiers(1, 1, 1);
        due.is("homeOf(359)", x.homeOf(359), 0);
        x.close(0);
        due.is("homeOf(359), on to 137", x.homeOf(359), 1);
        due.is("homeOf(331)", x.homeOf(331), 1);
        due.is("homeOf(330)", x.homeOf(330), 2);
    }

    private static void p15_360IsOneAboveTheLastPoint_none(Due due) {
        Twins.unchanged(due, "homeOf(360)", Starts::some, x -> x.homeOf(360), NONE);
        Twins.unchanged(due, "homeOf(360)", Starts::full, x -> x.homeOf(360), NONE);
    }

    private static void p15_pointFarOutOfRange_none(Due due) {
        PierRings x = Starts.withPiers(1);
        for (int far : Starts.FAR) {
            due.is("homeOf(" + far + ")", x.homeOf(far), NONE);
        }
    }

    private static void p15_noPierIsOpen_nothing(Due due) {
        PierRings x = new PierRings();
        due.is("homeOf(0), no pier", x.homeOf(0), NOTHING);
        due.is("homeOf(359), no pier", x.homeOf(359), NOTHING);
        x.pier(5);
        x.close(0);
        due.is("homeOf(0), closed", x.homeOf(0), NOTHING);
        due.is("homeOf(359), closed", x.homeOf(359), NOTHING);
    }

    private static void p15_noneIsListedAheadOfNothing(Due due) {
        due.is("homeOf(-1), no pier", new PierRings().homeOf(-1), NONE);
        due.is("homeOf(360), no pier", new PierRings().homeOf(360), NONE);
    }

    private static void p15_eachPointOf80IsItsOwnHome(Due due) {
        PierRings x = new PierRings();
        Starts.eightPiersOf(x, 5);
        for (int place = 0; place < 80; place++) {
            due.is("at the place " + place, x.homeOf(x.ring(place, 0)), x.ring(place, 1));
        }
        due.is("357 is the last one", x.homeOf(357), 5);
        due.is("358 goes on to 0", x.homeOf(358), 0);
    }

    private static void p15_askingLeavesAllAsItWas(Due due) {
        Twins.asked(due, "homeOf", x -> {
            for (int point = 0; point < 360; point += 7) {
                x.homeOf(point);
            }
        });
    }
}
