/** Promises 16 to 20. */
public final class RingTest {
    private static final int NONE = PierRings.NONE;
    private static final int BAD = PierRings.BAD;
    private static final int FULL = PierRings.FULL;
    private static final int NOTHING = PierRings.NOTHING;

    public static void main(String[] args) {
        Due due = new Due("RingTest");
        onePier(due);
        firstPoints(due);
        topOfTheTree(due);
        wholeRing(due);
        wouldMove(due);
        wouldClose(due);
        hottest(due);
        hottestOfClosed(due);
        due.end();
    }

    /** In the order of their numbers: 0, 56, 112, 168, 224, 280, 336, 32, 88, 144. */
    private static void onePier(Due due) {
        PierRings x = new PierRings();
        x.pier(5);
        int[] points = {0, 32, 56, 88, 112, 144, 168, 224, 280, 336};
        int[] numbers = {0, 7, 1, 8, 2, 9, 3, 4, 5, 6};
        int[] above = {0, 2, 1, 3, 2, 4, 3, 4, 5, 6};
        for (int place = 0; place < 10; place++) {
            due.is("ring(" + place + ", 0)", x.ring(place, 0), points[place]);
            due.is("ring(" + place + ", 1)", x.ring(place, 1), 0);
            due.is("ring(" + place + ", 2)", x.ring(place, 2), numbers[place]);
            due.is("ring(" + place + ", 3)", x.ring(place, 3), above[place]);
        }
        due.is("deep()", x.deep(), 7);
        due.is("ring(10, 0)", x.ring(10, 0), NONE);
        due.is("ring(-1, 4), NONE first", x.ring(-1, 4), NONE);
        due.is("ring(0, -1)", x.ring(0, -1), BAD);
        due.is("ring(9, 4)", x.ring(9, 4), BAD);
    }

    private static void firstPoints(Due due) {
        PierRings x = new PierRings();
        int[] first = {0, 137, 274, 51, 188, 325, 102, 239};
        int[] second = {56, 193, 330, 107, 244, 21, 158, 295};
        for (int pier = 0; pier < 8; pier++) {
            x.pier(1);
            for (int other = 0; other < pier; other++) {
                if (x.pierOf(other, 1) == 1) {
                    x.close(other);
                }
            }
            boolean isInOrder = first[pier] < second[pier];
            due.is("the first of " + pier, x.ring(isInOrder ? 0 : 1, 0), first[pier]);
            due.is("the second of " + pier, x.ring(isInOrder ? 1 : 0, 0), second[pier]);
            due.is("the number of the second", x.ring(isInOrder ? 1 : 0, 2), 1);
            due.is("its pier", x.ring(0, 1), pier);
        }
    }

    /** The tree begins with the first open pier, whatever joined or was opened last. */
    private static void topOfTheTree(Due due) {
        PierRings x = new PierRings();
        x.pier(1);
        x.pier(1);
        x.pier(1);
        due.is("one chain: 0, 56, 137, 193, 274, 330", x.deep(), 6);
        x.close(0);
        due.is("137 is on top", x.ring(0, 3), 0);
        due.is("330 has three above it", x.ring(3, 3), 3);
        due.is("deep()", x.deep(), 4);
        x.open(0);
        due.is("0 is on top again", x.ring(0, 3), 0);
        due.is("deep()", x.deep(), 6);
        x.close(0);
        x.close(1);
        x.close(2);
        due.is("no tree", x.deep(), 0);
        due.is("no place", x.ring(0, 0), NONE);
    }

    private static void wholeRing(Due due) {
        PierRings x = new PierRings();
        for (int pier = 0; pier < 8; pier++) {
            x.pier(5);
        }
        due.is("80 points", x.account(2), 80);
        for (int place = 1; place < 80; place++) {
            due.is("lower first", x.ring(place - 1, 0) < x.ring(place, 0) ? 1 : 0, 1);
            int pier = x.ring(place, 1);
            due.is("the point of " + place, x.ring(place, 0), 8 * ((17 * pier + 7 * x.ring(place, 2)) % 45) + pier);
        }
        due.is("ring(80, 0)", x.ring(80, 0), NONE);
        due.is("isBalanced()", x.isBalanced(), 1);
    }

    private static void wouldMove(Due due) {
        PierRings x = new PierRings();
        x.barge(Due.nameAt(57), 5);
        x.barge(Due.nameAt(194), 5);
        x.barge(Due.nameAt(306), 5);
        due.is("they have no home yet", x.wouldMove(1), 3);
        x.pier(1);
        due.is("wouldMove(0)", x.wouldMove(0), BAD);
        due.is("wouldMove(6)", x.wouldMove(6), BAD);
        due.is("137 and 193 alone", x.wouldMove(1), 1);
        due.is("57 and 225 too, none from 306 to 359", x.wouldMove(5), 2);
        due.is("nothing moved", x.account(10), 3);
        due.is("nothing joined", x.account(0), 1);
        due.is("no change", x.account(14), 4);
        due.is("homes stay", x.home(0), 0);
        for (int pier = 1; pier < 8; pier++) {
            x.pier(1);
        }
        due.is("8 are there", x.wouldMove(5), FULL);
        due.is("BAD first", x.wouldMove(6), BAD);
        due.is("no reason", x.reason(false), NOTHING);
    }

    private static void wouldClose(Due due) {
        PierRings x = new PierRings();
        x.pier(1);
        x.pier(1);
        x.barge(Due.nameAt(0), 5);
        x.barge(Due.nameAt(57), 5);
        x.barge(Due.nameAt(194), 5);
        due.is("wouldClose(0)", x.wouldClose(0), 2);
        due.is("wouldClose(1)", x.wouldClose(1), 1);
        due.is("wouldClose(2)", x.wouldClose(2), NONE);
        due.is("wouldClose(-1)", x.wouldClose(-1), NONE);
        due.is("still open", x.account(1), 2);
        due.is("nothing moved", x.account(10), 0);
        x.close(1);
        due.is("closed", x.wouldClose(1), NOTHING);
        due.is("all would have none", x.wouldClose(0), 3);
    }

    private static void hottest(Due due) {
        PierRings x = new PierRings();
        x.pier(2);
        x.pier(1);
        x.pier(2);
        order(due, x, "less room, then the lowest", 1, 0, 2);
        x.barge(Due.nameAt(0), 99);
        order(due, x, "-21, -60, -120", 0, 1, 2);
        x.barge(Due.nameAt(137), 39);
        order(due, x, "-21 twice, fewer berths first", 1, 0, 2);
        x.barge(Due.nameAt(331), 22);
        order(due, x, "1, -21, -120", 0, 1, 2);
        x.close(0);
        order(due, x, "its homes are at 2 then: 1, 0, -21", 2, 0, 1);
        due.is("hottest(-1)", x.hottest(-1), NONE);
        due.is("hottest(3)", x.hottest(3), NONE);
    }

    private static void hottestOfClosed(Due due) {
        PierRings x = new PierRings();
        x.pier(2);
        x.pier(1);
        x.pier(1);
        x.close(0);
        x.close(1);
        x.close(2);
        order(due, x, "all are 0: fewer berths, then the lowest", 1, 2, 0);
        x.open(1);
        order(due, x, "an open one has room", 2, 0, 1);
    }

    private static void order(Due due, PierRings x, String why, int... piers) {
        for (int place = 0; place < piers.length; place++) {
            due.is("hottest(" + place + "), " + why, x.hottest(place), piers[place]);
        }
    }
}
