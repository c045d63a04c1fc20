/** Promises 16 to 20 at their edges, a case for each. */
public final class EdgesOfRingTest {
    private static final int NONE = PierRings.NONE;
    private static final int BAD = PierRings.BAD;
    private static final int FULL = PierRings.FULL;
    private static final int NOTHING = PierRings.NOTHING;

    /** The points of the piers by their numbers, reckoned by hand from the document. */
    private static final int[][] POINTS = {
        {0, 56, 112, 168, 224, 280, 336, 32, 88, 144},
        {137, 193, 249, 305, 1, 57, 113, 169, 225, 281},
        {274, 330, 26, 82, 138, 194, 250, 306, 2, 58},
        {51, 107, 163, 219, 275, 331, 27, 83, 139, 195},
        {188, 244, 300, 356, 52, 108, 164, 220, 276, 332},
        {325, 21, 77, 133, 189, 245, 301, 357, 53, 109},
        {102, 158, 214, 270, 326, 22, 78, 134, 190, 246},
        {239, 295, 351, 47, 103, 159, 215, 271, 327, 23},
    };

    public static void main(String[] args) {
        Cases.run(EdgesOfRingTest.class, 16, 20, args);
    }

    private static PierRings wholeRing() {
        PierRings x = new PierRings();
        Starts.eightPiersOf(x, 5);
        return x;
    }

    /** Eight piers with one berth each, all closed but one. */
    private static PierRings aloneOpen(int pier) {
        PierRings x = new PierRings();
        Starts.eightPiersOf(x, 1);
        for (int other = 0; other < 8; other++) {
            if (other != pier) {
                x.close(other);
            }
        }
        return x;
    }

    // ---- promise 16: ring

    private static void p16_minus1IsOneBelowTheFirstPlace_none(Due due) {
        Twins.unchanged(due, "ring(-1, 0)", Starts::some, x -> x.ring(-1, 0), NONE);
    }

    private static void p16_place0HasTheLowestPoint(Due due) {
        Twins.unchanged(due, "ring(0, 0)", Starts::some, x -> x.ring(0, 0), 0);
        PierRings x = Starts.withPiers(1, 1, 1);
        x.close(0);
        due.is("the pier 0 is closed", x.ring(0, 0), 137);
        x.weigh(1, 3);
        due.is("1 is the number 4 of the pier 1", x.ring(0, 0), 1);
        due.is("its number", x.ring(0, 2), 4);
    }

    private static void p16_theLastPlaceHasTheHighestPoint(Due due) {
        Twins.unchanged(due, "ring(5, 0)", Starts::some, x -> x.ring(5, 0), 193);
        PierRings x = wholeRing();
        due.is("ring(79, 0)", x.ring(79, 0), 357);
        due.is("ring(79, 1)", x.ring(79, 1), 5);
        due.is("ring(79, 2)", x.ring(79, 2), 7);
    }

    private static void p16_oneAboveTheLastPlace_none(Due due) {
        Twins.unchanged(due, "ring(6, 0)", Starts::some, x -> x.ring(6, 0), NONE);
        due.is("ring(80, 0)", wholeRing().ring(80, 0), NONE);
        due.is("ring(2, 0)", Starts.withPiers(1).ring(2, 0), NONE);
    }

    private static void p16_noPointIsOnTheRing_none(Due due) {
        PierRings x = new PierRings();
        due.is("ring(0, 0), no pier", x.ring(0, 0), NONE);
        x.pier(5);
        x.close(0);
        due.is("ring(0, 0), closed", x.ring(0, 0), NONE);
        due.is("ring(9, 3), closed", x.ring(9, 3), NONE);
    }

    private static void p16_whatMinus1IsOneBelowTheFirst_bad(Due due) {
        Twins.unchanged(due, "ring(0, -1)", Starts::some, x -> x.ring(0, -1), BAD);
    }

    private static void p16_what0IsTheFirstAndWhat3TheLastInRange(Due due) {
        Twins.unchanged(due, "ring(3, 0)", Starts::some, x -> x.ring(3, 0), 137);
        Twins.unchanged(due, "ring(3, 3)", Starts::some, x -> x.ring(3, 3), 4);
    }

    private static void p16_what4IsOneAboveTheLast_bad(Due due) {
        Twins.unchanged(due, "ring(5, 4)", Starts::some, x -> x.ring(5, 4), BAD);
    }

    private static void p16_numbersFarOutOfRange(Due due) {
        PierRings x = Starts.withPiers(1);
        for (int far : Starts.FAR) {
            due.is("ring(" + far + ", 0)", x.ring(far, 0), NONE);
            due.is("ring(0, " + far + ")", x.ring(0, far), BAD);
        }
    }

    private static void p16_noneIsListedAheadOfBad(Due due) {
        PierRings x = Starts.withPiers(1);
        due.is("ring(-1, -1)", x.ring(-1, -1), NONE);
        due.is("ring(2, 4)", x.ring(2, 4), NONE);
        due.is("ring(0, 4), no pier", new PierRings().ring(0, 4), NONE);
    }

    private static void p16_all80PointsAreDifferentAndWhereTheDocumentPutsThem(Due due) {
        PierRings x = wholeRing();
        int before = -1;
        for (int place = 0; place < 80; place++) {
            int point = x.ring(place, 0);
            due.is("higher than the one before, at " + place, point > before ? 1 : 0, 1);
            due.is("the point at " + place, point, POINTS[x.ring(place, 1)][x.ring(place, 2)]);
            before = point;
        }
    }

    private static void p16_aPierWith1BerthHasItsPoints0And1Alone(Due due) {
        for (int pier = 0; pier < 8; pier++) {
            PierRings x = aloneOpen(pier);
            boolean inOrder = POINTS[pier][0] < POINTS[pier][1];
            due.is("the point 0 of " + pier, x.ring(inOrder ? 0 : 1, 0), POINTS[pier][0]);
            due.is("the point 1 of " + pier, x.ring(inOrder ? 1 : 0, 0), POINTS[pier][1]);
            due.is("no third one", x.ring(2, 0), NONE);
        }
    }

    private static void p16_aClosedPierHasNoPoints(Due due) {
        PierRings x = wholeRing();
        x.close(7);
        due.is("70 are left", x.ring(70, 0), NONE);
        for (int place = 0; place < 70; place++) {
            due.is("not of the pier 7", x.ring(place, 1) < 7 ? 1 : 0, 1);
        }
    }

    private static void p16_theFirstPointOfTheLowestOpenPierIsOnTop(Due due) {
        PierRings x = Starts.withPiers(1, 1, 1);
        due.is("0 has none above it", x.ring(0, 3), 0);
        x.close(0);
        due.is("137 has none above it", x.ring(0, 3), 0);
        due.is("193 has one", x.ring(1, 3), 1);
        due.is("274 has two", x.ring(2, 3), 2);
        x.weigh(1, 3);
        due.is("1, to the left of 137, has one", x.ring(0, 3), 1);
        due.is("57, to its right, has two", x.ring(1, 3), 2);
        due.is("137 has none", x.ring(2, 3), 0);
    }

    private static void p16_aPierOpenedAgainComesAtItsNumberIntoTheTree(Due due) {
        PierRings x = Starts.withPiers(1, 1);
        x.close(0);
        x.open(0);
        due.is("0 is on top", x.ring(0, 3), 0);
        due.is("193 has three above it", x.ring(3, 3), 3);
    }

    private static void p16_askingLeavesAllAsItWas(Due due) {
        Twins.asked(due, "ring", x -> {
            for (int place = 0; place <= 20; place++) {
                for (int what = 0; what <= 3; what++) {
                    x.ring(place, what);
                }
            }
        });
    }

    // ---- promise 17: deep

    private static void p17_noPier_0(Due due) {
        Twins.unchanged(due, "deep()", Starts::none, PierRings::deep, 0);
    }

    private static void p17_allPiersAreClosed_0(Due due) {
        PierRings x = Starts.withPiers(5, 5);
        x.close(0);
        x.close(1);
        due.is("deep()", x.deep(), 0);
        x.open(1);
        due.is("deep(), opened", x.deep() > 0 ? 1 : 0, 1);
    }

    private static void p17_twoPoints_2(Due due) {
        for (int pier = 0; pier < 8; pier++) {
            PierRings x = aloneOpen(pier);
            due.is("deep() of " + pier, x.deep(), 2);
        }
    }

    private static void p17_allInOneChain(Due due) {
        due.is("0, 56, 137, 193", Starts.withPiers(1, 1).deep(), 4);
        due.is("0, 56, 112, 168, 224, 280, 336, and 32, 88, 144 aside", Starts.withPiers(5).deep(), 7);
    }

    private static void p17_80Points_13(Due due) {
        PierRings x = wholeRing();
        due.is("deep()", x.deep(), 13);
        int most = 0;
        for (int place = 0; place < 80; place++) {
            most = Math.max(most, x.ring(place, 3));
        }
        due.is("the most that are above one, and this one", most + 1, 13);
    }

    private static void p17_askingLeavesAllAsItWas(Due due) {
        Twins.asked(due, "deep", x -> {
            x.deep();
        });
    }

    // ---- promise 18: wouldMove

    private static void p18_0BerthsIsOneBelowTheFirst_bad(Due due) {
        Twins.unchanged(due, "wouldMove(0)", Starts::some, x -> x.wouldMove(0), BAD);
    }

    private static void p18_1And5BerthsAreTheFirstAndTheLastInRange(Due due) {
        PierRings x = Starts.withPiers(1);
        Starts.bargeAt(x, 57, 5);
        Starts.bargeAt(x, 194, 5);
        due.is("wouldMove(1), with 137 and 193", x.wouldMove(1), 1);
        due.is("wouldMove(5), with 225 too", x.wouldMove(5), 2);
    }

    private static void p18_6BerthsIsOneAboveTheLast_bad(Due due) {
        Twins.unchanged(due, "wouldMove(6)", Starts::some, x -> x.wouldMove(6), BAD);
    }

    private static void p18_berthsFarOutOfRange_bad(Due due) {
        PierRings x = new PierRings();
        for (int far : Starts.FAR) {
            due.is("wouldMove(" + far + ")", x.wouldMove(far), BAD);
        }
    }

    private static void p18_7Piers_an8thMayBeAskedFor(Due due) {
        PierRings x = Starts.withPiers(1, 1, 1, 1, 1, 1, 1);
        Starts.bargeAt(x, 295, 5);
        Starts.bargeAt(x, 296, 5);
        due.is("wouldMove(1), with 239 and 295", x.wouldMove(1), 1);
        due.is("pier(1)", x.pier(1), 7);
        due.is("so many moved", x.account(10), 1);
    }

    private static void p18_8Piers_full(Due due) {
        Twins.unchanged(due, "wouldMove(1)", Starts::full, x -> x.wouldMove(1), FULL);
        Twins.unchanged(due, "wouldMove(5)", Starts::eightPiers, x -> x.wouldMove(5), FULL);
    }

    private static void p18_8ClosedPiers_full(Due due) {
        PierRings x = wholeRing();
        for (int pier = 0; pier < 8; pier++) {
            x.close(pier);
        }
        due.is("wouldMove(1)", x.wouldMove(1), FULL);
    }

    private static void p18_badIsListedAheadOfFull(Due due) {
        Twins.unchanged(due, "wouldMove(0)", Starts::full, x -> x.wouldMove(0), BAD);
        Twins.unchanged(due, "wouldMove(6)", Starts::full, x -> x.wouldMove(6), BAD);
    }

    private static void p18_noBarge_0(Due due) {
        Twins.unchanged(due, "wouldMove(5), no pier", Starts::none, x -> x.wouldMove(5), 0);
        due.is("wouldMove(5)", Starts.withPiers(1).wouldMove(5), 0);
    }

    private static void p18_noPierIsOpen_all24WouldHaveAnotherHome(Due due) {
        Twins.unchanged(due, "wouldMove(1), no pier", Starts::twentyFourBarges, x -> x.wouldMove(1), 24);
        PierRings x = Starts.withPiers(2);
        x.close(0);
        Starts.twentyFourBarges(x);
        due.is("wouldMove(1), closed", x.wouldMove(1), 24);
        due.is("account(10)", x.account(10), 0);
    }

    private static void p18_homesBehind359WouldMove(Due due) {
        PierRings x = Starts.withPiers(1, 1, 1);
        x.close(0);
        Starts.bargeAt(x, 330, 5);
        Starts.bargeAt(x, 331, 5);
        Starts.bargeAt(x, 359, 5);
        Starts.bargeAt(x, 107, 5);
        Starts.bargeAt(x, 108, 5);
        due.is("wouldMove(1), with 51 and 107", x.wouldMove(1), 3);
    }

    private static void p18_askingLeavesAllAsItWas(Due due) {
        Twins.unchanged(due, "wouldMove(1), with 51 and 107", Starts::some, x -> x.wouldMove(1), 2);
        Twins.unchanged(due, "wouldMove(5), with 139 and others too", Starts::some, x -> x.wouldMove(5), 3);
    }

    // ---- promise 19: wouldClose

    private static void p19_minus1IsOneBelowTheFirstPier_none(Due due) {
        Twins.unchanged(due, "wouldClose(-1)", Starts::some, x -> x.wouldClose(-1), NONE);
    }

    private static void p19_theFirstAndTheLastPierOf8(Due due) {
        PierRings x = new PierRings();
        Starts.eightPiersOf(x, 1);
        Starts.bargeAt(x, 359, 5);
        Starts.bargeAt(x, 295, 5);
        Starts.bargeAt(x, 239, 5);
        due.is("wouldClose(0)", x.wouldClose(0), 1);
        due.is("wouldClose(7)", x.wouldClose(7), 2);
    }

    private static void p19_oneAboveTheLastPier_none(Due due) {
        Twins.unchanged(due, "wouldClose(3)", Starts::some, x -> x.wouldClose(3), NONE);
        Twins.unchanged(due, "wouldClose(8)", Starts::full, x -> x.wouldClose(8), NONE);
    }

    private static void p19_noPierIsThere_none(Due due) {
        Twins.unchanged(due, "wouldClose(0)", Starts::none, x -> x.wouldClose(0), NONE);
    }

    private static void p19_pierFarOutOfRange_none(Due due) {
        PierRings x = Starts.withPiers(1);
        for (int far : Starts.FAR) {
            due.is("wouldClose(" + far + ")", x.wouldClose(far), NONE);
        }
    }

    private static void p19_aClosedPier_nothing(Due due) {
        Twins.unchanged(due, "wouldClose(2)", Starts::some, x -> x.wouldClose(2), NOTHING);
        Twins.unchanged(due, "wouldClose(3)", Starts::full, x -> x.wouldClose(3), NOTHING);
    }

    private static void p19_noBarge_0(Due due) {
        due.is("wouldClose(0)", Starts.withPiers(5).wouldClose(0), 0);
    }

    private static void p19_theLastOpenPier_all24WouldHaveNone(Due due) {
        PierRings x = Starts.withPiers(2, 3);
        x.close(0);
        Starts.twentyFourBarges(x);
        due.is("wouldClose(1)", x.wouldClose(1), 24);
        due.is("still open", x.account(1), 1);
        due.is("account(10)", x.account(10), 0);
        due.is("close(1)", x.close(1), 24);
    }

    private static void p19_homesBehind359WouldMove(Due due) {
        PierRings x = Starts.withPiers(1, 1, 1);
        Starts.bargeAt(x, 330, 5);
        Starts.bargeAt(x, 331, 5);
        Starts.bargeAt(x, 359, 5);
        Starts.bargeAt(x, 0, 5);
        due.is("wouldClose(0)", x.wouldClose(0), 3);
        due.is("wouldClose(2)", x.wouldClose(2), 1);
        due.is("wouldClose(1)", x.wouldClose(1), 0);
    }

    private static void p19_askingLeavesAllAsItWas(Due due) {
        Twins.unchanged(due, "wouldClose(0)", Starts::some, x -> x.wouldClose(0), 3);
        Twins.unchanged(due, "wouldClose(1)", Starts::some, x -> x.wouldClose(1), 1);
    }

    // ---- promise 20: hottest

    private static void p20_minus1IsOneBelowTheFirstPlace_none(Due due) {
        Twins.unchanged(due, "hottest(-1)", Starts::some, x -> x.hottest(-1), NONE);
    }

    private static void p20_theFirstAndTheLastPlaceOf3(Due due) {
        Twins.unchanged(due, "hottest(0), 31 of 20", Starts::some, x -> x.hottest(0), 0);
        Twins.unchanged(due, "hottest(1), closed, 0 of 0", Starts::some, x -> x.hottest(1), 2);
        Twins.unchanged(due, "hottest(2), 5 of 10", Starts::some, x -> x.hottest(2), 1);
    }

    private static void p20_oneAboveTheLastPlace_none(Due due) {
        Twins.unchanged(due, "hottest(3)", Starts::some, x -> x.hottest(3), NONE);
        Twins.unchanged(due, "hottest(8)", Starts::full, x -> x.hottest(8), NONE);
    }

    private static void p20_noPierIsThere_none(Due due) {
        due.is("hottest(0)", new PierRings().hottest(0), NONE);
    }

    private static void p20_placeFarOutOfRange_none(Due due) {
        PierRings x = Starts.withPiers(1);
        for (int far : Starts.FAR) {
            due.is("hottest(" + far + ")", x.hottest(far), NONE);
        }
    }

    private static void p20_theOnlyPier(Due due) {
        PierRings x = Starts.withPiers(1);
        due.is("hottest(0)", x.hottest(0), 0);
        x.close(0);
        due.is("hottest(0), closed", x.hottest(0), 0);
        due.is("hottest(1)", x.hottest(1), NONE);
    }

    private static void p20_8PiersAlike_byTheirNumbers(Due due) {
        PierRings x = wholeRing();
        for (int place = 0; place < 8; place++) {
            due.is("hottest(" + place + ")", x.hottest(place), place);
        }
    }

    private static void p20_moreRoomIsBelow0AndComesLater(Due due) {
        PierRings x = Starts.withPiers(5, 4, 3, 2, 1);
        for (int place = 0; place < 5; place++) {
            due.is("hottest(" + place + ")", x.hottest(place), 4 - place);
        }
    }

    private static void p20_asManyTons_fewerBerthsFirst(Due due) {
        PierRings x = Starts.withPiers(2, 1);
        x.close(0);
        x.close(1);
        due.is("0 and 0, 2 and 1 berths", x.hottest(0), 1);
        due.is("hottest(1)", x.hottest(1), 0);
    }

    private static void p20_asManyTonsAndBerths_theLowestFirst(Due due) {
        PierRings x = Starts.withPiers(3, 2, 2, 3);
        for (int pier = 0; pier < 4; pier++) {
            x.close(pier);
        }
        int[] order = {1, 2, 0, 3};
        for (int place = 0; place < 4; place++) {
            due.is("hottest(" + place + ")", x.hottest(place), order[place]);
        }
    }

    private static void p20_oneTonMoreComesFirst(Due due) {
        PierRings x = Starts.withPiers(1, 1);
        Starts.bargeAt(x, 0, 50);
        Starts.bargeAt(x, 137, 50);
        due.is("-10 and -10", x.hottest(0), 0);
        x.load(1, 51);
        due.is("-10 and -9", x.hottest(0), 1);
        x.load(0, 71);
        due.is("11 and -9", x.hottest(0), 0);
    }

    private static void p20_aClosedPierIs0_betweenHotOnesAndOthers(Due due) {
        PierRings x = Starts.withPiers(1, 1, 1);
        x.close(2);
        Starts.bargeAt(x, 0, 61);
        due.is("61 of 60", x.hottest(0), 0);
        due.is("0 of 0", x.hottest(1), 2);
        due.is("0 of 60", x.hottest(2), 1);
        x.load(0, 60);
        due.is("60 of 60", x.hottest(0), 0);
        x.load(0, 59);
        due.is("59 of 60, so 0 of 0 is ahead", x.hottest(0), 2);
    }

    private static void p20_askingLeavesAllAsItWas(Due due) {
        Twins.asked(due, "hottest", x -> {
            for (int place = 0; place <= 7; place++) {
                x.hottest(place);
            }
        });
    }
}
