/** Promises 9 to 15. */
public final class BargesTest {
    private static final int NONE = PierRings.NONE;
    private static final int BAD = PierRings.BAD;
    private static final int REFUSED = PierRings.REFUSED;
    private static final int NOTHING = PierRings.NOTHING;

    public static void main(String[] args) {
        Due due = new Due("BargesTest");
        barge(due);
        bargesAreFull(due);
        leave(due);
        load(due);
        bargeOf(due);
        lying(due);
        lyingByNumbers(due);
        homes(due);
        homeOf(due);
        due.end();
    }

    private static void barge(Due due) {
        PierRings x = new PierRings();
        due.is("barge(-1, 1)", x.barge(-1, 1), BAD);
        due.is("barge(10000, 1)", x.barge(10000, 1), BAD);
        due.is("barge(0, 0)", x.barge(0, 0), BAD);
        due.is("barge(0, 100)", x.barge(0, 100), BAD);
        due.is("nothing came", x.account(3), 0);
        due.is("barge(0, 1), without a pier", x.barge(0, 1), 0);
        due.is("barge(9999, 99)", x.barge(9999, 99), 1);
        due.is("barge(360, 1), the point of 0", x.barge(360, 1), 2);
        due.is("barge(9999, 0), BAD first", x.barge(9999, 0), BAD);
        due.is("no reason yet", x.reason(false), NOTHING);
        due.is("barge(9999, 1)", x.barge(9999, 1), REFUSED);
        due.is("its reason", x.reason(false), 2);
        due.is("its detail is the number", x.reason(true), 1);
        due.is("as it was", x.bargeOf(1, 1), 99);
        due.is("changes", x.account(14), 3);
    }

    private static void bargesAreFull(Due due) {
        PierRings x = new PierRings();
        for (int number = 0; number < 24; number++) {
            due.is("barge " + number, x.barge(100 + number, 1 + number), number);
        }
        due.is("the 25th", x.barge(99, 5), REFUSED);
        due.is("its reason", x.reason(false), 1);
        due.is("its detail", x.reason(true), 24);
        due.is("a name that is there, asked first", x.barge(123, 5), REFUSED);
        due.is("its reason", x.reason(false), 2);
        due.is("its detail", x.reason(true), 23);
        due.is("BAD first", x.barge(123, 100), BAD);
        due.is("24 lie nowhere", x.account(6), 24);
    }

    private static void leave(Due due) {
        PierRings x = new PierRings();
        x.pier(1);
        x.barge(7, 60);
        x.barge(8, 50);
        x.barge(9, 10);
        due.is("leave(-1)", x.leave(-1), NONE);
        due.is("leave(3)", x.leave(3), NONE);
        due.is("the 8 lies nowhere", x.bargeOf(1, 3), NOTHING);
        due.is("leave(0)", x.leave(0), 2);
        due.is("the 8 is the first now", x.bargeOf(0, 0), 8);
        due.is("with its tons", x.bargeOf(0, 1), 50);
        due.is("the 9 is the next", x.bargeOf(1, 0), 9);
        due.is("with its tons", x.bargeOf(1, 1), 10);
        due.is("the 8 lies now", x.bargeOf(0, 3), 0);
        due.is("the 9 too", x.bargeOf(1, 3), 0);
        due.is("no more", x.bargeOf(2, 0), NONE);
        due.is("leave(1), the last", x.leave(1), 1);
        due.is("leave(0)", x.leave(0), 0);
        due.is("leave(0), none is there", x.leave(0), NONE);
        due.is("the name is free", x.barge(8, 1), 0);
    }

    private static void load(Due due) {
        PierRings x = new PierRings();
        x.pier(1);
        x.barge(3, 20);
        due.is("load(1, 0), NONE first", x.load(1, 0), NONE);
        due.is("load(-1, 1)", x.load(-1, 1), NONE);
        due.is("load(0, 0)", x.load(0, 0), BAD);
        due.is("load(0, 100)", x.load(0, 100), BAD);
        due.is("load(0, 20), it is so", x.load(0, 20), REFUSED);
        due.is("its reason", x.reason(false), 3);
        due.is("its detail is the tons", x.reason(true), 20);
        due.is("load(0, 99)", x.load(0, 99), 20);
        due.is("it lies nowhere", x.bargeOf(0, 3), NOTHING);
        due.is("load(0, 1)", x.load(0, 1), 99);
        due.is("it lies", x.bargeOf(0, 3), 0);
        due.is("changes", x.account(14), 4);
    }

    private static void bargeOf(Due due) {
        PierRings x = new PierRings();
        x.barge(9999, 42);
        due.is("its name", x.bargeOf(0, 0), 9999);
        due.is("its tons", x.bargeOf(0, 1), 42);
        due.is("its point: 369974 less 1027 times 360", x.bargeOf(0, 2), 254);
        due.is("nowhere, without a pier", x.bargeOf(0, 3), NOTHING);
        due.is("it passes none", x.bargeOf(0, 4), 0);
        due.is("bargeOf(0, -1)", x.bargeOf(0, -1), BAD);
        due.is("bargeOf(0, 5)", x.bargeOf(0, 5), BAD);
        due.is("bargeOf(1, 5), NONE first", x.bargeOf(1, 5), NONE);
        due.is("bargeOf(-1, 0)", x.bargeOf(-1, 0), NONE);
        x.barge(0, 1);
        due.is("the point of the name 0", x.bargeOf(1, 2), 11);
    }

    /** The ring has 0, 56, 112 of the pier 0, 137 of 1, 168 of 0, 193 of 1; they bear 20 and 10. */
    private static void lying(Due due) {
        PierRings x = new PierRings();
        x.pier(2);
        x.pier(1);
        x.berth(10);
        x.barge(Due.nameAt(1), 20);
        due.is("20 of 20, at its home", x.bargeOf(0, 3), 0);
        due.is("it passes none", x.bargeOf(0, 4), 0);
        x.barge(Due.nameAt(194), 9);
        due.is("behind 359, at the next one with room", x.bargeOf(1, 3), 1);
        due.is("it passes 0, 56, 112", x.bargeOf(1, 4), 3);
        x.barge(Due.nameAt(57), 2);
        due.is("no room for 2", x.bargeOf(2, 3), NOTHING);
        due.is("it passes all", x.bargeOf(2, 4), 6);
        x.barge(Due.nameAt(112), 1);
        due.is("room for 1", x.bargeOf(3, 3), 1);
        due.is("it passes 112 alone", x.bargeOf(3, 4), 1);
        x.load(0, 19);
        due.is("the next may lie at 0 now", x.bargeOf(3, 3), 0);
        due.is("it passes none", x.bargeOf(3, 4), 0);
        x.close(0);
        due.is("the closed pier has no room", x.bargeOf(3, 3), 1);
        due.is("and no points to pass", x.bargeOf(3, 4), 0);
        due.is("the first one passes both of the pier 1", x.bargeOf(0, 4), 2);
    }

    private static void lyingByNumbers(Due due) {
        PierRings x = new PierRings();
        x.pier(1);
        x.barge(Due.nameAt(300), 50);
        x.barge(Due.nameAt(0), 20);
        x.barge(Due.nameAt(56), 10);
        due.is("the first comes first, though farther", x.bargeOf(0, 3), 0);
        due.is("the second has no room", x.bargeOf(1, 3), NOTHING);
        due.is("the third has: 60 of 60", x.bargeOf(2, 3), 0);
    }

    /** The ring has 0 and 56 of the pier 0, 137 and 193 of 1. */
    private static void homes(Due due) {
        PierRings x = new PierRings();
        due.is("home(0), no barge", x.home(0), NONE);
        due.is("homeAgain(0), no barge", x.homeAgain(0), NONE);
        int[] points = {0, 1, 56, 57, 137, 138, 193, 194, 359};
        int[] homes = {0, 0, 0, 1, 1, 1, 1, 0, 0};
        for (int i = 0; i < points.length; i++) {
            x.barge(Due.nameAt(points[i]), 99);
            due.is("its point", x.bargeOf(i, 2), points[i]);
            due.is("home, no pier", x.home(i), NOTHING);
            due.is("homeAgain, no pier", x.homeAgain(i), NOTHING);
        }
        x.pier(1);
        x.pier(1);
        for (int i = 0; i < points.length; i++) {
            due.is("home at " + points[i], x.home(i), homes[i]);
            due.is("homeAgain at " + points[i], x.homeAgain(i), homes[i]);
        }
        x.close(0);
        for (int i = 0; i < points.length; i++) {
            due.is("home, one open", x.home(i), 1);
            due.is("homeAgain, one open", x.homeAgain(i), 1);
        }
        due.is("home(-1)", x.home(-1), NONE);
        due.is("home(9)", x.home(9), NONE);
        due.is("homeAgain(-1)", x.homeAgain(-1), NONE);
        due.is("homeAgain(9)", x.homeAgain(9), NONE);
    }

    private static void homeOf(Due due) {
        PierRings x = new PierRings();
        x.pier(1);
        x.pier(1);
        due.is("homeOf(-1)", x.homeOf(-1), NONE);
        due.is("homeOf(360)", x.homeOf(360), NONE);
        for (int point = 0; point < 360; point++) {
            due.is("homeOf(" + point + ")", x.homeOf(point), point > 56 && point <= 193 ? 1 : 0);
        }
        x.close(0);
        x.close(1);
        due.is("none is open", x.homeOf(359), NOTHING);
        due.is("NONE all the same", x.homeOf(360), NONE);
    }
}
