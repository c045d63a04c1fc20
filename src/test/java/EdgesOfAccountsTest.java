/** Promises 26 to 33 at their edges, a case for each. */
public final class EdgesOfAccountsTest {
    private static final int NONE = PierRings.NONE;
    private static final int BAD = PierRings.BAD;
    private static final int FULL = PierRings.FULL;
    private static final int REFUSED = PierRings.REFUSED;
    private static final int NOTHING = PierRings.NOTHING;

    public static void main(String[] args) {
        Cases.run(EdgesOfAccountsTest.class, 26, 33, args);
    }

    private static PierRings whole() {
        PierRings x = new PierRings();
        Starts.eightPiersOf(x, 5);
        return x;
    }

    private static void reasonIs(Due due, PierRings x, int reason, int detail) {
        due.is("reason(false)", x.reason(false), reason);
        due.is("reason(true)", x.reason(true), detail);
    }

    // ---- promise 26: reason

    private static void p26_nothingWasRefused_nothing(Due due) {
        Twins.unchanged(due, "reason(false)", Starts::none, x -> x.reason(false), NOTHING);
        Twins.unchanged(due, "reason(true)", Starts::none, x -> x.reason(true), NOTHING);
        Twins.unchanged(due, "reason(true)", Starts::eightPiers, x -> x.reason(true), NOTHING);
    }

    private static void p26_noneBadFullAndNothingAreNoReasons(Due due) {
        PierRings x = whole();
        due.is("close(8)", x.close(8), NONE);
        due.is("weigh(0, 6)", x.weigh(0, 6), BAD);
        due.is("wouldMove(1)", x.wouldMove(1), FULL);
        due.is("restore()", x.restore(), NOTHING);
        for (int length = 0; length < 60; length++) {
            x.append(';');
        }
        due.is("append(';')", x.append(';'), FULL);
        due.is("run()", x.run(), -1000);
        reasonIs(due, x, NOTHING, NOTHING);
    }

    private static void p26_reason1OfPiersIs8AndOfBargesIs24(Due due) {
        PierRings x = whole();
        Starts.twentyFourBarges(x);
        x.pier(1);
        reasonIs(due, x, 1, 8);
        x.barge(1, 1);
        reasonIs(due, x, 1, 24);
        x.pier(1);
        reasonIs(due, x, 1, 8);
    }

    private static void p26_reason2IsTheNumberOfTheFirstAndOfTheLastBarge(Due due) {
        PierRings x = new PierRings();
        Starts.twentyFourBarges(x);
        x.barge(0, 1);
        reasonIs(due, x, 2, 0);
        x.barge(401 * 23, 1);
        reasonIs(due, x, 2, 23);
        x.leave(0);
        x.barge(401 * 23, 1);
        reasonIs(due, x, 2, 22);
    }

    private static void p26_reason3IsThePierTheBerthsOrTheTons(Due due) {
        PierRings x = Starts.withPiers(3, 4);
        x.barge(5, 9);
        x.open(1);
        reasonIs(due, x, 3, 1);
        x.open(0);
        reasonIs(due, x, 3, 0);
        x.weigh(1, 4);
        reasonIs(due, x, 3, 4);
        x.berth(60);
        reasonIs(due, x, 3, 60);
        x.load(0, 9);
        reasonIs(due, x, 3, 9);
        x.close(1);
        reasonIs(due, x, 3, 9);
        x.close(1);
        reasonIs(due, x, 3, 1);
    }

    private static void p26_reason4IsTheNumberOfTheOrderFrom0(Due due) {
        PierRings x = new PierRings();
        Due.run(x, "pier 0");
        reasonIs(due, x, 4, 0);
        Due.run(x, "pier 1;close 0;open 0;open 0");
        reasonIs(due, x, 4, 3);
    }

    private static void p26_theLatestReasonStaysWithWhatIsDoneAndWithCodes(Due due) {
        PierRings x = Starts.withPiers(3, 4);
        x.open(1);
        x.close(1);
        x.close(2);
        x.pier(0);
        x.barge(1, 1);
        x.tell(0);
        reasonIs(due, x, 3, 1);
    }

    private static void p26_itIsNeitherUndoneNorRestored(Due due) {
        PierRings x = new PierRings();
        x.save();
        x.pier(3);
        x.weigh(0, 3);
        x.undo();
        reasonIs(due, x, 3, 3);
        x.restore();
        reasonIs(due, x, 3, 3);
    }

    private static void p26_askingLeavesAllAsItWas(Due due) {
        Twins.asked(due, "reason", x -> {
            x.reason(false);
            x.reason(true);
        });
    }

    // ---- promise 27: account

    private static void p27_whatMinus1IsOneBelowTheFirst_bad(Due due) {
        Twins.unchanged(due, "account(-1)", Starts::some, x -> x.account(-1), BAD);
    }

    private static void p27_what0IsTheFirstAndWhat14TheLastInRange(Due due) {
        Twins.unchanged(due, "account(0)", Starts::some, x -> x.account(0), 3);
        Twins.unchanged(due, "account(14)", Starts::some, x -> x.account(14), 8);
    }

    private static void p27_what15IsOneAboveTheLast_bad(Due due) {
        Twins.unchanged(due, "account(15)", Starts::some, x -> x.account(15), BAD);
    }

    private static void p27_whatFarOutOfRange_bad(Due due) {
        PierRings x = new PierRings();
        for (int far : Starts.FAR) {
            due.is("account(" + far + ")", x.account(far), BAD);
        }
    }

    private static void accounts(Due due, PierRings x, int... want) {
        for (int what = 0; what < want.length; what++) {
            due.is("account(" + what + ")", x.account(what), want[what]);
        }
    }

    private static void p27_nothingIsThere_0(Due due) {
        accounts(due, new PierRings(), 0, 0, 0, 0, 0, 0, 0, 0, 0, 0, 0, 60, 0, 0, 0);
    }

    private static void p27_piersWithoutBarges(Due due) {
        PierRings x = whole();
        x.berth(200);
        accounts(due, x, 8, 8, 80, 0, 0, 0, 0, 0, 0, 8000, 0, 200, 0, 0, 8);
    }

    private static void p27_bargesWithoutPiers(Due due) {
        PierRings x = new PierRings();
        Starts.twentyFourBarges(x);
        accounts(due, x, 0, 0, 0, 24, 0, 0, 24, 1128, 0, 0, 0, 60, 0, 0, 8);
    }

    private static void p27_allPiersAreClosed(Due due) {
        PierRings x = new PierRings();
        Starts.twentyFourBarges(x);
        x.pier(5);
        x.close(0);
        accounts(due, x, 1, 0, 0, 24, 0, 0, 24, 1128, 0, 0, 48, 60, 0, 0, 8);
    }

    private static void p27_all24AtTheirHomes(Due due) {
        PierRings x = whole();
        x.berth(200);
        Starts.twentyFourBarges(x);
        accounts(due, x, 8, 8, 80, 24, 24, 0, 0, 1128, 1128, 8000, 0, 200, 0, 0, 8);
    }

    private static void p27_atHomeElsewhereAndNowhere(Due due) {
        PierRings x = new PierRings();
        Starts.some(x);
        accounts(due, x, 3, 2, 6, 4, 2, 1, 1, 36, 27, 30, 0, 10, 1, 6, 8);
    }

    private static void p27_tonsAsManyAsTheRoomAreNotHotAndOneMoreIs(Due due) {
        PierRings x = Starts.withPiers(1, 1);
        Starts.bargeAt(x, 0, 60);
        Starts.bargeAt(x, 137, 60);
        due.is("60 of 60 twice", x.account(12), 0);
        x.load(0, 61);
        due.is("61 of 60", x.account(12), 1);
        x.load(1, 61);
        due.is("61 of 60 twice", x.account(12), 2);
        x.close(0);
        due.is("a closed one is not", x.account(12), 1);
    }

    private static void p27_homesThatMovedAreAddedByEachOfTheFourCalls(Due due) {
        PierRings x = new PierRings();
        Starts.bargeAt(x, 194, 5);
        x.pier(1);
        due.is("joining", x.account(10), 1);
        x.pier(1);
        due.is("joining, none moves", x.account(10), 1);
        x.close(0);
        due.is("closing", x.account(10), 2);
        x.open(0);
        due.is("opening", x.account(10), 3);
        x.weigh(1, 5);
        due.is("weighing", x.account(10), 4);
        x.leave(0);
        due.is("leaving does not count", x.account(10), 4);
    }

    private static void p27_charactersOfTheTextFrom0To60(Due due) {
        PierRings x = new PierRings();
        for (int length = 0; length < 62; length++) {
            due.is("account(13)", x.account(13), Math.min(length, 60));
            x.append('p');
        }
        x.run();
        due.is("account(13), run", x.account(13), 0);
    }

    private static void p27_changesFrom0To8(Due due) {
        PierRings x = new PierRings();
        for (int changes = 0; changes < 12; changes++) {
            due.is("account(14)", x.account(14), Math.min(changes, 8));
            x.barge(changes, 1);
        }
        for (int left = 7; left >= 0; left--) {
            x.undo();
            due.is("account(14)", x.account(14), left);
        }
    }

    private static void p27_askingLeavesAllAsItWas(Due due) {
        Twins.asked(due, "account", x -> {
            for (int what = 0; what <= 14; what++) {
                x.account(what);
            }
        });
    }

    // ---- promise 28: isBalanced

    private static void p28_noPierNoBarge_1(Due due) {
        Twins.unchanged(due, "isBalanced()", Starts::none, PierRings::isBalanced, 1);
    }

    private static void p28_noPierIsOpen_1(Due due) {
        Twins.unchanged(due, "isBalanced(), no pier", Starts::twentyFourBarges, PierRings::isBalanced, 1);
        PierRings x = Starts.withPiers(5, 5);
        Starts.twentyFourBarges(x);
        x.close(0);
        x.close(1);
        due.is("isBalanced(), all are closed", x.isBalanced(), 1);
    }

    private static void p28_oneIsOpenAndItsHomesWouldEnd_1(Due due) {
        PierRings x = Starts.withPiers(5, 5);
        Starts.twentyFourBarges(x);
        x.close(0);
        due.is("isBalanced()", x.isBalanced(), 1);
    }

    private static void p28_8PiersAnd24BargesSomeOfThemNowhere_1(Due due) {
        Twins.unchanged(due, "isBalanced()", Starts::full, PierRings::isBalanced, 1);
        PierRings x = whole();
        x.berth(10);
        Starts.twentyFourBarges(x);
        due.is("some lie nowhere", x.account(6) > 0 ? 1 : 0, 1);
        due.is("isBalanced()", x.isBalanced(), 1);
    }

    private static void p28_asMuchAsTheRoomLies_1(Due due) {
        PierRings x = Starts.withPiers(1);
        x.barge(3, 60);
        due.is("all is taken", x.account(8), x.account(9));
        due.is("isBalanced()", x.isBalanced(), 1);
        x.berth(10);
        due.is("none is taken", x.account(8), 0);
        due.is("isBalanced()", x.isBalanced(), 1);
    }

    private static void p28_homesBehind359_1(Due due) {
        PierRings x = Starts.withPiers(1, 1, 1);
        Starts.bargeAt(x, 359, 5);
        Starts.bargeAt(x, 331, 5);
        Starts.bargeAt(x, 0, 5);
        due.is("isBalanced()", x.isBalanced(), 1);
        x.close(0);
        due.is("isBalanced(), 0 is closed", x.isBalanced(), 1);
    }

    private static void p28_askingLeavesAllAsItWas(Due due) {
        Twins.asked(due, "isBalanced", x -> {
            x.isBalanced();
        });
    }

    // ---- promise 29: meanStretch

    private static void p29_noPierIsOpen_0(Due due) {
        PierRings x = new PierRings();
        due.isReal("no pier", x.meanStretch(), 0.0);
        x.pier(1);
        x.close(0);
        due.isReal("closed", x.meanStretch(), 0.0);
    }

    private static void p29_oneIsOpen_360(Due due) {
        PierRings x = Starts.withPiers(1, 1);
        x.close(0);
        due.isReal("meanStretch()", x.meanStretch(), 360.0);
    }

    private static void p29_7AreOpen_notRoundedDown(Due due) {
        PierRings x = whole();
        x.close(3);
        due.isReal("meanStretch()", x.meanStretch(), 360.0 / 7.0);
    }

    private static void p29_8AreOpen_45(Due due) {
        due.isReal("meanStretch()", whole().meanStretch(), 45.0);
    }

    private static void p29_askingLeavesAllAsItWas(Due due) {
        Twins.asked(due, "meanStretch", x -> {
            x.meanStretch();
        });
    }

    // ---- promise 30: takenShare

    private static void p30_withoutRoom_0(Due due) {
        PierRings x = new PierRings();
        due.isReal("no pier", x.takenShare(), 0.0f);
        x.barge(3, 5);
        due.isReal("a barge, no pier", x.takenShare(), 0.0f);
        x.pier(1);
        x.close(0);
        due.isReal("closed", x.takenShare(), 0.0f);
    }

    private static void p30_noBarge_0(Due due) {
        due.isReal("takenShare()", Starts.withPiers(5).takenShare(), 0.0f);
    }

    private static void p30_allIsTaken_1(Due due) {
        PierRings x = Starts.withPiers(1);
        x.barge(3, 60);
        due.isReal("takenShare()", x.takenShare(), 1.0f);
    }

    private static void p30_whatLiesNowhereTakesNothing(Due due) {
        PierRings x = Starts.withPiers(1);
        x.barge(3, 61);
        due.isReal("61 of 60", x.takenShare(), 0.0f);
        x.barge(4, 20);
        due.isReal("20 of 60", x.takenShare(), 20.0f / 60.0f);
    }

    private static void p30_theLeastShare(Due due) {
        PierRings x = whole();
        x.berth(200);
        x.barge(3, 1);
        due.isReal("1 of 8000", x.takenShare(), 1.0f / 8000.0f);
    }

    private static void p30_aShareThatIsNoDouble(Due due) {
        PierRings x = Starts.withPiers(1, 2);
        x.barge(3, 7);
        due.isReal("7 of 180", x.takenShare(), 7.0f / 180.0f);
    }

    private static void p30_askingLeavesAllAsItWas(Due due) {
        Twins.asked(due, "takenShare", x -> {
            x.takenShare();
        });
    }

    // ---- promise 31: undo

    private static void p31_noChange_nothing(Due due) {
        Twins.unchanged(due, "undo()", Starts::none, PierRings::undo, NOTHING);
    }

    private static void p31_theOnlyChange_0(Due due) {
        PierRings x = Starts.withPiers(1);
        due.is("undo()", x.undo(), 0);
        due.is("account(0)", x.account(0), 0);
        due.is("undo()", x.undo(), NOTHING);
    }

    private static void p31_8Changes_7To0(Due due) {
        PierRings x = new PierRings();
        Starts.eightPiersOf(x, 1);
        for (int left = 7; left >= 0; left--) {
            due.is("undo()", x.undo(), left);
            due.is("account(0)", x.account(0), left);
        }
        due.is("undo()", x.undo(), NOTHING);
        due.is("account(0)", x.account(0), 0);
    }

    private static void p31_the9thChangeBackStays(Due due) {
        PierRings x = new PierRings();
        Starts.eightPiersOf(x, 1);
        x.barge(3, 5);
        for (int left = 7; left >= 0; left--) {
            due.is("undo()", x.undo(), left);
        }
        due.is("undo()", x.undo(), NOTHING);
        due.is("the first pier stays", x.account(0), 1);
        due.is("the barge does not", x.account(3), 0);
    }

    private static void p31_manyChanges_onlyTheLatest8(Due due) {
        PierRings x = new PierRings();
        Starts.twentyFourBarges(x);
        for (int left = 7; left >= 0; left--) {
            due.is("undo()", x.undo(), left);
        }
        due.is("undo()", x.undo(), NOTHING);
        due.is("16 stay", x.account(3), 16);
        due.is("the last one's name", x.bargeOf(15, 0), 401 * 15);
    }

    private static void p31_whatIsRefusedIsNoChange(Due due) {
        PierRings x = Starts.withPiers(1);
        x.open(0);
        x.pier(9);
        x.close(9);
        Due.run(x, "close 9");
        Due.run(x, "close");
        due.is("undo()", x.undo(), 0);
        due.is("account(0)", x.account(0), 0);
    }

    private static void p31_undoIsNoChangeItself(Due due) {
        PierRings x = Starts.withPiers(1, 2, 3);
        x.undo();
        due.is("account(14)", x.account(14), 2);
        due.is("undo()", x.undo(), 1);
        due.is("account(0)", x.account(0), 1);
        due.is("its berths", x.pierOf(0, 0), 1);
    }

    private static void p31_changesBehindAnUndoTakeItsPlace(Due due) {
        PierRings x = Starts.withPiers(1, 2);
        x.undo();
        x.pier(5);
        due.is("undo()", x.undo(), 1);
        due.is("undo()", x.undo(), 0);
        due.is("account(0)", x.account(0), 0);
    }

    private static void p31_askingIsNoChange(Due due) {
        PierRings x = Starts.withPiers(1);
        x.wouldMove(1);
        x.wouldClose(0);
        x.tell(0);
        x.append('p');
        x.save();
        x.isBalanced();
        due.is("account(14)", x.account(14), 1);
        due.is("undo()", x.undo(), 0);
    }

    private static void p31_changesByWhichNothingIsDifferentAreUndoneToo(Due due) {
        PierRings x = Starts.withPiers(1);
        x.close(0);
        x.open(0);
        Due.run(x, "close 0;open 0");
        due.is("undo()", x.undo(), 3);
        due.is("open", x.pierOf(0, 1), 1);
        due.is("undo()", x.undo(), 2);
        due.is("closed", x.pierOf(0, 1), 0);
    }

    private static void undone(Due due, String name, Twins.Start start, Twins.Call change, int left) {
        Twins.Start changed = x -> {
            start.lead(x);
            change.on(x);
        };
        PierRings x = new PierRings();
        changed.lead(x);
        int answer = x.undo();
        due.is("undo() of " + name, answer, left);
        PierRings y = new PierRings();
        start.lead(y);
        for (int what = 0; what <= 12; what++) {
            due.is(name + ", account(" + what + ")", x.account(what), y.account(what));
        }
        for (int pier = 0; pier < 8; pier++) {
            for (int what = 0; what <= 9; what++) {
                due.is(name + ", pierOf(" + pier + ", " + what + ")", x.pierOf(pier, what), y.pierOf(pier, what));
            }
        }
        for (int barge = 0; barge < 24; barge++) {
            for (int what = 0; what <= 4; what++) {
                due.is(name + ", bargeOf(" + barge + ", " + what + ")", x.bargeOf(barge, what), y.bargeOf(barge, what));
            }
            due.is(name + ", home(" + barge + ")", x.home(barge), y.home(barge));
            due.is(name + ", homeAgain(" + barge + ")", x.homeAgain(barge), y.homeAgain(barge));
        }
    }

    /** The latest call was done, so that what is undone is not what a refused one left behind. */
    private static void someAndAChange(PierRings x) {
        Starts.some(x);
        x.load(3, 6);
    }

    private static void fullAndAChange(PierRings x) {
        Starts.full(x);
        x.load(23, 5);
    }

    private static void p31_eachKindOfChangeIsUndoneWhole(Due due) {
        undone(due, "pier", EdgesOfAccountsTest::someAndAChange, x -> x.pier(5), 7);
        undone(due, "close", EdgesOfAccountsTest::someAndAChange, x -> x.close(0), 7);
        undone(due, "open", EdgesOfAccountsTest::someAndAChange, x -> x.open(2), 7);
        undone(due, "weigh", EdgesOfAccountsTest::someAndAChange, x -> x.weigh(1, 5), 7);
        undone(due, "weigh, closed", EdgesOfAccountsTest::someAndAChange, x -> x.weigh(2, 5), 7);
        undone(due, "berth", EdgesOfAccountsTest::someAndAChange, x -> x.berth(200), 7);
        undone(due, "barge", EdgesOfAccountsTest::someAndAChange, x -> x.barge(9999, 1), 7);
        undone(due, "leave", EdgesOfAccountsTest::someAndAChange, x -> x.leave(0), 7);
        undone(due, "load", EdgesOfAccountsTest::someAndAChange, x -> x.load(0, 1), 7);
        undone(due, "run", EdgesOfAccountsTest::someAndAChange, PierRings::run, 7);
        undone(due, "the first pier", Starts::none, x -> x.pier(5), 0);
        undone(due, "close of the 8th pier", Starts::eightPiers, x -> x.close(7), 7);
        undone(due, "leave of the first of 24", EdgesOfAccountsTest::fullAndAChange, x -> x.leave(0), 7);
        undone(due, "leave of the last of 24", EdgesOfAccountsTest::fullAndAChange, x -> x.leave(23), 7);
        undone(due, "close of the last of 8", EdgesOfAccountsTest::fullAndAChange, x -> x.close(7), 7);
        undone(due, "run in full", EdgesOfAccountsTest::fullAndAChange, PierRings::run, 7);
    }

    private static void p31_theTextTheLineAndTheReasonStay(Due due) {
        PierRings x = Starts.withPiers(1);
        x.tell(0);
        x.open(0);
        x.append('p');
        x.undo();
        due.isText("the line", Due.line(x), "0*1:");
        due.is("the text", x.account(13), 1);
        reasonIs(due, x, 3, 0);
        Due.run(x, "ier 4");
        x.undo();
        due.is("an undone run gives the text not back", x.account(13), 0);
    }

    private static void p31_theSnapshotStays(Due due) {
        PierRings x = Starts.withPiers(1);
        x.save();
        x.pier(2);
        x.undo();
        x.undo();
        due.is("restore()", x.restore(), 0);
        due.is("account(0)", x.account(0), 1);
    }

    // ---- promise 32: save

    private static void p32_noBarge_0(Due due) {
        Twins.unchangedBut(due, "save()", Starts::none, PierRings::save, 0, Twins.Look.RESTORED);
    }

    private static void p32_24Barges_24(Due due) {
        Twins.unchangedBut(due, "save()", Starts::full, PierRings::save, 24, Twins.Look.RESTORED);
    }

    private static void p32_itIsNoChangeAndLeavesAllAsItWas(Due due) {
        Twins.unchangedBut(due, "save()", Starts::some, PierRings::save, 4, Twins.Look.RESTORED);
        PierRings x = Starts.withPiers(1, 1);
        x.save();
        due.is("account(14)", x.account(14), 2);
        due.is("undo()", x.undo(), 1);
    }

    private static void p32_inPlaceOfAnEarlierSnapshot(Due due) {
        PierRings x = new PierRings();
        x.barge(1, 1);
        due.is("save()", x.save(), 1);
        x.barge(2, 2);
        due.is("save() again", x.save(), 2);
        x.leave(0);
        x.leave(0);
        due.is("restore()", x.restore(), 2);
        due.is("its name", x.bargeOf(1, 0), 2);
    }

    private static void p32_laterChangesDoNotReachTheSnapshot(Due due) {
        PierRings x = Starts.withPiers(1, 2);
        x.barge(3, 5);
        x.save();
        x.weigh(0, 5);
        x.close(1);
        x.load(0, 9);
        x.berth(10);
        x.restore();
        due.is("berths", x.pierOf(0, 0), 1);
        due.is("open", x.pierOf(1, 1), 1);
        due.is("tons", x.bargeOf(0, 1), 5);
        due.is("of a berth", x.account(11), 60);
        due.is("moved", x.account(10), 0);
    }

    private static void p32_theTextTheLineAndTheReasonAreNotSaved(Due due) {
        PierRings x = Starts.withPiers(1);
        x.save();
        x.tell(0);
        x.append('p');
        x.open(0);
        x.restore();
        due.isText("the line", Due.line(x), "0*1:");
        due.is("the text", x.account(13), 1);
        reasonIs(due, x, 3, 0);
    }

    // ---- promise 33: restore

    private static void p33_noSnapshot_nothing(Due due) {
        Twins.unchanged(due, "restore()", Starts::none, PierRings::restore, NOTHING);
        Twins.unchanged(due, "restore()", Starts::twentyFourBarges, PierRings::restore, NOTHING);
        Twins.unchanged(due, "restore()", Starts::eightPiers, PierRings::restore, NOTHING);
    }

    private static void p33_aSnapshotOfNothing_0(Due due) {
        PierRings x = new PierRings();
        x.save();
        Starts.twentyFourBarges(x);
        Starts.eightPiers(x);
        x.berth(10);
        due.is("restore()", x.restore(), 0);
        accounts(due, x, 0, 0, 0, 0, 0, 0, 0, 0, 0, 0, 0, 60, 0, 0, 0);
    }

    private static void p33_aSnapshotOf8PiersAnd24Barges_24(Due due) {
        PierRings x = new PierRings();
        Starts.eightPiers(x);
        x.close(7);
        Starts.twentyFourBarges(x);
        x.berth(200);
        x.save();
        for (int barge = 0; barge < 24; barge++) {
            x.leave(0);
        }
        x.open(7);
        x.berth(10);
        x.weigh(0, 5);
        due.is("restore()", x.restore(), 24);
        for (int barge = 0; barge < 24; barge++) {
            due.is("the name of " + barge, x.bargeOf(barge, 0), 401 * barge);
            due.is("the tons of " + barge, x.bargeOf(barge, 1), 1 + 4 * barge);
        }
        for (int pier = 0; pier < 8; pier++) {
            due.is("the berths of " + pier, x.pierOf(pier, 0), 1 + pier % 5);
            due.is("open, " + pier, x.pierOf(pier, 1), pier < 7 ? 1 : 0);
        }
        due.is("account(11)", x.account(11), 200);
    }

    private static void p33_nothingCanBeUndoneThen(Due due) {
        PierRings x = Starts.withPiers(1, 1);
        x.save();
        x.pier(1);
        due.is("restore()", x.restore(), 0);
        due.is("account(14)", x.account(14), 0);
        due.is("undo()", x.undo(), NOTHING);
        due.is("account(0)", x.account(0), 2);
        x.pier(1);
        due.is("a change after it", x.undo(), 0);
        due.is("account(0)", x.account(0), 2);
        due.is("undo()", x.undo(), NOTHING);
    }

    private static void p33_the8ChangesBehindARestoreCanBeUndone(Due due) {
        PierRings x = Starts.withPiers(1, 1, 1);
        x.save();
        x.restore();
        for (int name = 0; name < 9; name++) {
            x.barge(name, 1);
        }
        for (int left = 7; left >= 0; left--) {
            due.is("undo()", x.undo(), left);
        }
        due.is("undo()", x.undo(), NOTHING);
        due.is("account(3)", x.account(3), 1);
        due.is("account(0)", x.account(0), 3);
    }

    private static void p33_theSnapshotStays(Due due) {
        PierRings x = new PierRings();
        x.barge(1, 1);
        x.save();
        for (int times = 0; times < 3; times++) {
            x.load(0, 50);
            x.barge(2, 2);
            due.is("restore()", x.restore(), 1);
            due.is("tons", x.bargeOf(0, 1), 1);
        }
    }

    private static void p33_restoreIsNoChangeThatCanBeUndone(Due due) {
        PierRings x = new PierRings();
        x.save();
        x.pier(1);
        x.restore();
        due.is("undo()", x.undo(), NOTHING);
        due.is("account(0)", x.account(0), 0);
    }

    private static void p33_homesAndWhereBargesLieAreAsTheyWere(Due due) {
        PierRings x = new PierRings();
        Starts.some(x);
        x.save();
        x.close(0);
        x.open(2);
        x.leave(0);
        x.restore();
        PierRings y = new PierRings();
        Starts.some(y);
        for (int barge = 0; barge < 4; barge++) {
            for (int what = 0; what <= 4; what++) {
                due.is("bargeOf(" + barge + ", " + what + ")", x.bargeOf(barge, what), y.bargeOf(barge, what));
            }
            due.is("home(" + barge + ")", x.home(barge), y.home(barge));
        }
        due.is("deep()", x.deep(), y.deep());
        due.is("account(10)", x.account(10), 0);
        due.is("the name of the first barge is there again", x.barge(Due.nameAt(1), 1), REFUSED);
    }
}
