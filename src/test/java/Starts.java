/** States from which the cases begin. Each has a line, a begun text, a reason, a snapshot, and changes to undo. */
final class Starts {
    /** Numbers far out of every range. */
    static final int[] FAR = {Integer.MIN_VALUE, Integer.MIN_VALUE + 1, -1000, 100000, Integer.MAX_VALUE - 1, Integer.MAX_VALUE};

    private Starts() {
    }

    /** Nothing at all. */
    static void none(PierRings x) {
    }

    /**
     * Two open piers and a closed one; barges that lie at their homes, elsewhere and nowhere. The points are 0, 56, 112
     * of the pier 0, 137 of 1, 168 of 0, 193 of 1; a berth bears 10.
     */
    static void some(PierRings x) {
        x.pier(2);
        x.pier(1);
        x.berth(10);
        x.save();
        x.pier(3);
        x.close(2);
        bargeAt(x, 1, 20);
        bargeAt(x, 57, 2);
        bargeAt(x, 138, 9);
        bargeAt(x, 193, 5);
        bargeAt(x, 1, 5);
        x.tell(0);
        Due.write(x, "pier 4");
    }

    /** Eight piers, the pier 3 is closed, and 24 barges. */
    static void full(PierRings x) {
        eightPiers(x);
        x.close(3);
        x.save();
        x.berth(50);
        twentyFourBarges(x);
        x.open(0);
        x.tell(1);
        Due.write(x, "weigh 2 5");
    }

    /** Berths 1, 2, 3, 4, 5, 1, 2, 3. */
    static void eightPiers(PierRings x) {
        for (int pier = 0; pier < 8; pier++) {
            x.pier(1 + pier % 5);
        }
    }

    static void eightPiersOf(PierRings x, int berths) {
        for (int pier = 0; pier < 8; pier++) {
            x.pier(berths);
        }
    }

    /** Names 0, 401, 802 and on, tons 1, 5, 9 and on. */
    static void twentyFourBarges(PierRings x) {
        for (int barge = 0; barge < 24; barge++) {
            x.barge(401 * barge, 1 + 4 * barge);
        }
    }

    static PierRings withPiers(int... berths) {
        PierRings x = new PierRings();
        for (int each : berths) {
            x.pier(each);
        }
        return x;
    }

    static int bargeAt(PierRings x, int point, int tons) {
        return x.barge(Due.nameAt(point), tons);
    }
}
