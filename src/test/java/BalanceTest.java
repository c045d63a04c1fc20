import java.lang.reflect.Field;

/**
 * Promise 28 where it answers 0. No run of calls leads there, so that the test reaches into the object and breaks what
 * is to be balanced; it knows the names of the private fields for that.
 */
public final class BalanceTest {
    public static void main(String[] args) throws ReflectiveOperationException {
        Due due = new Due("BalanceTest");
        due.is("whole", balanced().isBalanced(), 1);
        for (int barge = 0; barge < 3; barge++) {
            PierRings x = balanced();
            row(x, "circle", "nodeAt")[x.bargeOf(barge, 2)] = barge == 1 ? 0 : 2;
            due.is("another home along the ring of " + barge, x.isBalanced(), 0);
            x = balanced();
            row(x, "moorings", "homes")[barge] = 1 - x.home(barge);
            due.is("a home that is not as it was of " + barge, x.isBalanced(), 0);
        }
        for (int pier = 0; pier < 3; pier++) {
            PierRings x = balanced();
            row(x, "moorings", "lyingTons")[pier] = x.pierOf(pier, 8) + 1;
            due.is("too much at " + pier, x.isBalanced(), 0);
            row(x, "moorings", "lyingTons")[pier] = x.pierOf(pier, 8);
            due.is("not too much at " + pier, x.isBalanced(), 1);
            x = balanced();
            row(x, "circle", "owner")[2 * pier] = 7;
            due.is("a stretch of " + pier + " is of none", x.isBalanced(), 0);
        }
        due.end();
    }

    /** The pier 0 has 0 and 56, 1 has 137 and 193, 2 has 274 and 330. */
    private static PierRings balanced() {
        PierRings x = new PierRings();
        for (int pier = 0; pier < 3; pier++) {
            x.pier(1);
        }
        x.barge(Due.nameAt(20), 5);
        x.barge(Due.nameAt(100), 5);
        x.barge(Due.nameAt(30), 5);
        return x;
    }

    private static int[] row(PierRings x, String part, String name) throws ReflectiveOperationException {
        Field partField = PierRings.class.getDeclaredField(part);
        partField.setAccessible(true);
        Object owner = partField.get(x);
        Field rowField = owner.getClass().getDeclaredField(name);
        rowField.setAccessible(true);
        return (int[]) rowField.get(owner);
    }
}
