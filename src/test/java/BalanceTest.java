import java.lang.reflect.Field;

/**
 * Promise 28 where it answers 0, a case for each of what it asks. No run of calls leads there, so that the test reaches
 * into the object and breaks what is to be balanced; it knows the names of the private fields for that.
 */
public final class BalanceTest {
    private static final int NOTHING = PierRings.NOTHING;

    public static void main(String[] args) {
        Cases.run(BalanceTest.class, 28, 28, args);
    }

    /** The pier 0 has 0 and 56, 1 has 137 and 193, 2 has 274 and 330; all barges are at home at 0 and 1. */
    private static PierRings balanced() {
        PierRings x = Starts.withPiers(1, 1, 1);
        Starts.bargeAt(x, 20, 5);
        Starts.bargeAt(x, 100, 5);
        Starts.bargeAt(x, 30, 5);
        return x;
    }

    private static int[] row(PierRings x, String part, String name) throws ReflectiveOperationException {
        Field partField = PierRings.class.getDeclaredField(part);
        partField.setAccessible(true);
        Object owner = partField.get(x);
        Field rowField = owner.getClass().getDeclaredField(name);
        rowField.setAccessible(true);
        return (int[]) rowField.get(owner);
    }

    private static void p28_nothingIsBroken_1(Due due) {
        due.is("isBalanced()", balanced().isBalanced(), 1);
    }

    private static void p28_anotherHomeBySecondWayOfTheFirstOrTheLastBarge_0(Due due) throws ReflectiveOperationException {
        for (int barge = 0; barge < 3; barge++) {
            PierRings x = balanced();
            row(x, "circle", "nodeAt")[x.bargeOf(barge, 2)] = barge == 1 ? 0 : 2;
            due.is("the homes are not the same", x.home(barge) == x.homeAgain(barge) ? 1 : 0, 0);
            due.is("isBalanced(), the barge " + barge, x.isBalanced(), 0);
        }
    }

    private static void p28_stretchesAreNot360Together_0(Due due) throws ReflectiveOperationException {
        for (int pier = 0; pier < 3; pier++) {
            PierRings x = balanced();
            row(x, "circle", "owner")[2 * pier] = 7;
            due.is("isBalanced(), a stretch of " + pier + " is of none", x.isBalanced(), 0);
        }
    }

    private static void p28_oneTonMoreThanTheRoomLiesAtTheFirstOrTheLastPier_0(Due due) throws ReflectiveOperationException {
        for (int pier = 0; pier < 3; pier++) {
            PierRings x = balanced();
            row(x, "moorings", "lyingTons")[pier] = 60;
            due.is("isBalanced(), 60 of 60 at " + pier, x.isBalanced(), 1);
            row(x, "moorings", "lyingTons")[pier] = 61;
            due.is("isBalanced(), 61 of 60 at " + pier, x.isBalanced(), 0);
        }
    }

    private static void p28_aHomeWouldMoveFromAnotherPier_0(Due due) throws ReflectiveOperationException {
        for (int barge = 0; barge < 3; barge++) {
            PierRings x = balanced();
            row(x, "moorings", "homes")[barge] = 1 - x.home(barge);
            due.is("isBalanced(), the barge " + barge, x.isBalanced(), 0);
        }
        PierRings two = Starts.withPiers(1, 1);
        Starts.bargeAt(two, 20, 5);
        row(two, "moorings", "homes")[0] = NOTHING;
        due.is("isBalanced(), from none to neighbours", two.isBalanced(), 0);
        PierRings one = Starts.withPiers(1);
        Starts.bargeAt(one, 20, 5);
        row(one, "moorings", "homes")[0] = 1;
        due.is("isBalanced(), the pier 0 alone is open", one.isBalanced(), 0);
    }

    private static void p28_aHomeWouldMoveToAnotherThanANeighbour_0(Due due) throws ReflectiveOperationException {
        PierRings x = Starts.withPiers(1, 1, 1);
        Starts.bargeAt(x, 20, 5);
        int[] owners = row(x, "circle", "owner");
        for (int node = 2; node < 6; node++) {
            owners[node] = 3 - owners[node];
        }
        due.is("the neighbour is 2 here", x.neighbours(0), 4);
        due.is("isBalanced(), 1 would be the home", x.isBalanced(), 0);
    }
}
