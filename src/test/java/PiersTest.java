/** Promises 1 to 8. The points are those of the piers: 0 and 56, 137 and 193, 274 and 330 for one berth each. */
public final class PiersTest {
    private static final int NONE = PierRings.NONE;
    private static final int BAD = PierRings.BAD;
    private static final int REFUSED = PierRings.REFUSED;
    private static final int NOTHING = PierRings.NOTHING;

    public static void main(String[] args) {
        Due due = new Due("PiersTest");
        newObject(due);
        pier(due);
        pierMovesHomes(due);
        closeAndOpen(due);
        weigh(due);
        berth(due);
        pierOf(due);
        stretches(due);
        hotPiers(due);
        neighbours(due);
        due.end();
    }

    private static PierRings withPiers(int... berths) {
        PierRings x = new PierRings();
        for (int each : berths) {
            x.pier(each);
        }
        return x;
    }

    private static int bargeAt(PierRings x, int point, int tons) {
        return x.barge(Due.nameAt(point), tons);
    }

    private static void newObject(Due due) {
        PierRings x = new PierRings();
        for (int what = 0; what <= 14; what++) {
            due.is("new: account(" + what + ")", x.account(what), what == 11 ? 60 : 0);
        }
        due.is("new: pierOf(0, 0)", x.pierOf(0, 0), NONE);
        due.is("new: bargeOf(0, 0)", x.bargeOf(0, 0), NONE);
        due.is("new: homeOf(0)", x.homeOf(0), NOTHING);
        due.is("new: ring(0, 0)", x.ring(0, 0), NONE);
        due.is("new: deep()", x.deep(), 0);
        due.is("new: hottest(0)", x.hottest(0), NONE);
        due.is("new: character(0)", x.character(0), NONE);
        due.is("new: reason(false)", x.reason(false), NOTHING);
        due.is("new: reason(true)", x.reason(true), NOTHING);
        due.is("new: undo()", x.undo(), NOTHING);
        due.is("new: restore()", x.restore(), NOTHING);
        due.is("new: isBalanced()", x.isBalanced(), 1);
    }

    private static void pier(Due due) {
        PierRings x = new PierRings();
        due.is("pier(0)", x.pier(0), BAD);
        due.is("pier(6)", x.pier(6), BAD);
        due.is("pier(least)", x.pier(Integer.MIN_VALUE), BAD);
        due.is("pier(most)", x.pier(Integer.MAX_VALUE), BAD);
        due.is("no pier yet", x.account(0), 0);
        due.is("no change yet", x.account(14), 0);
        due.is("pier(1)", x.pier(1), 0);
        due.is("pier(5)", x.pier(5), 1);
        due.is("it is open", x.pierOf(1, 1), 1);
        due.is("its berths", x.pierOf(1, 0), 5);
        for (int number = 2; number < 8; number++) {
            due.is("pier(2)", x.pier(2), number);
        }
        due.is("no reason yet", x.reason(false), NOTHING);
        due.is("the 9th, BAD first", x.pier(6), BAD);
        due.is("the 9th", x.pier(2), REFUSED);
        due.is("its reason", x.reason(false), 1);
        due.is("its detail", x.reason(true), 8);
        due.is("still 8", x.account(0), 8);
    }

    private static void pierMovesHomes(Due due) {
        PierRings x = new PierRings();
        bargeAt(x, 57, 5);
        bargeAt(x, 194, 5);
        due.is("first pier", x.pier(1), 0);
        due.is("both had no home", x.account(10), 2);
        due.is("second pier", x.pier(1), 1);
        due.is("the one at 57 moved", x.account(10), 3);
        due.is("not the one at 194", x.home(1), 0);
    }

    private static void closeAndOpen(Due due) {
        PierRings x = withPiers(1, 1);
        bargeAt(x, 0, 5);
        bargeAt(x, 57, 5);
        bargeAt(x, 194, 5);
        due.is("close(-1)", x.close(-1), NONE);
        due.is("close(2)", x.close(2), NONE);
        due.is("open(-1)", x.open(-1), NONE);
        due.is("open(2)", x.open(2), NONE);
        due.is("open(1), it is", x.open(1), REFUSED);
        due.is("its reason", x.reason(false), 3);
        due.is("its detail is the pier", x.reason(true), 1);
        due.is("close(1)", x.close(1), 1);
        due.is("close(1) again", x.close(1), REFUSED);
        due.is("its reason", x.reason(false), 3);
        due.is("its detail is the pier", x.reason(true), 1);
        due.is("close(0), all lose theirs", x.close(0), 3);
        due.is("no home", x.home(0), NOTHING);
        due.is("open(1), all have one", x.open(1), 3);
        due.is("moved so far", x.account(10), 7);
        due.is("open(0)", x.open(0), 2);
        due.is("moved so far", x.account(10), 9);
        due.is("open(0) again", x.open(0), REFUSED);
        due.is("its detail is the pier", x.reason(true), 0);
        due.is("changes", x.account(14), 8);
    }

    private static void weigh(Due due) {
        PierRings x = withPiers(1, 1);
        bargeAt(x, 57, 5);
        bargeAt(x, 137, 5);
        bargeAt(x, 138, 5);
        bargeAt(x, 194, 5);
        due.is("weigh(2, 0), NONE first", x.weigh(2, 0), NONE);
        due.is("weigh(-1, 1)", x.weigh(-1, 1), NONE);
        due.is("weigh(0, 0)", x.weigh(0, 0), BAD);
        due.is("weigh(0, 6)", x.weigh(0, 6), BAD);
        due.is("weigh(0, 1), it is so", x.weigh(0, 1), REFUSED);
        due.is("its reason", x.reason(false), 3);
        due.is("its detail is the berths", x.reason(true), 1);
        due.is("weigh(0, 5)", x.weigh(0, 5), 2);
        due.is("moved so far", x.account(10), 2);
        due.is("its points", x.pierOf(0, 2), 10);
        due.is("the home of 57", x.home(0), 0);
        due.is("the home of 137", x.home(1), 1);
        due.is("close(0)", x.close(0), 3);
        due.is("weigh(0, 1), closed", x.weigh(0, 1), 0);
        due.is("its berths", x.pierOf(0, 0), 1);
        due.is("still closed", x.pierOf(0, 1), 0);
        due.is("open(0), with its new berths", x.open(0), 1);
        due.is("its points", x.pierOf(0, 2), 2);
    }

    private static void berth(Due due) {
        PierRings x = withPiers(2);
        bargeAt(x, 0, 20);
        due.is("berth(9)", x.berth(9), BAD);
        due.is("berth(201)", x.berth(201), BAD);
        due.is("berth(60), it is so", x.berth(60), REFUSED);
        due.is("its reason", x.reason(false), 3);
        due.is("its detail is the tons", x.reason(true), 60);
        due.is("berth(10)", x.berth(10), 60);
        due.is("it lies, 20 of 20", x.bargeOf(0, 3), 0);
        due.is("berth(200)", x.berth(200), 10);
        due.is("the room", x.pierOf(0, 8), 400);
        due.is("berth(11)", x.berth(11), 200);
        x.load(0, 23);
        due.is("it lies nowhere, 23 of 22", x.bargeOf(0, 3), NOTHING);
        due.is("berth(12)", x.berth(12), 11);
        due.is("it lies, 23 of 24", x.bargeOf(0, 3), 0);
        due.is("account(11)", x.account(11), 12);
    }

    /** The ring has 0, 56, 112 of the pier 0, 137 of 1, 168 of 0, 193 of 1. */
    private static void pierOf(Due due) {
        PierRings x = withPiers(2, 1, 3);
        x.close(2);
        x.berth(10);
        bargeAt(x, 1, 20);
        bargeAt(x, 2, 7);
        bargeAt(x, 169, 4);
        int[][] want = {
            {2, 1, 4, 167 + 56 + 56 + 31, 2, 27, 1, 20, 20, 1},
            {1, 1, 2, 25 + 25, 1, 4, 1, 7, 10, 0},
            {3, 0, 0, 0, 0, 0, 0, 0, 0, 0},
        };
        for (int pier = 0; pier < 3; pier++) {
            for (int what = 0; what <= 9; what++) {
                due.is("pierOf(" + pier + ", " + what + ")", x.pierOf(pier, what), want[pier][what]);
            }
        }
        due.is("pierOf(0, -1)", x.pierOf(0, -1), BAD);
        due.is("pierOf(0, 10)", x.pierOf(0, 10), BAD);
        due.is("pierOf(3, 0)", x.pierOf(3, 0), NONE);
        due.is("pierOf(-1, 10), NONE first", x.pierOf(-1, 10), NONE);
    }

    private static void stretches(Due due) {
        PierRings x = withPiers(1);
        due.is("alone it has all", x.pierOf(0, 3), 360);
        x.pier(1);
        due.is("194 to 359, 0, and 1 to 56", x.pierOf(0, 3), 223);
        due.is("57 to 193", x.pierOf(1, 3), 137);
        x.close(0);
        due.is("closed, it has none", x.pierOf(0, 3), 0);
        due.is("the other has all", x.pierOf(1, 3), 360);
    }

    private static void hotPiers(Due due) {
        PierRings x = withPiers(1, 5);
        bargeAt(x, 0, 60);
        due.is("60 of 60 is not hot", x.pierOf(0, 9), 0);
        bargeAt(x, 56, 1);
        due.is("61 of 60 is hot", x.pierOf(0, 9), 1);
        due.is("though 60 lie there", x.pierOf(0, 7), 60);
        due.is("it lies at the other", x.bargeOf(1, 3), 1);
        x.close(0);
        due.is("closed, it is not hot", x.pierOf(0, 9), 0);
    }

    private static void neighbours(Due due) {
        PierRings x = withPiers(1);
        due.is("alone", x.neighbours(0), 0);
        x.pier(1);
        x.pier(1);
        due.is("0 and 56, then 137", x.neighbours(0), 2);
        due.is("137 and 193, then 274", x.neighbours(1), 4);
        due.is("274 and 330, then 0 again", x.neighbours(2), 1);
        x.weigh(1, 5);
        due.is("1, then 56 of 0; 249, then 274 of 2", x.neighbours(1), 5);
        due.is("neighbours(-1)", x.neighbours(-1), NONE);
        due.is("neighbours(3)", x.neighbours(3), NONE);
        x.close(1);
        due.is("closed", x.neighbours(1), 0);
        due.is("330, then 0 again", x.neighbours(2), 1);
        x.close(0);
        due.is("the only open one", x.neighbours(2), 0);
    }
}
