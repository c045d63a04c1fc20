/** Promises 26 to 33. */
public final class AccountsTest {
    private static final int BAD = PierRings.BAD;
    private static final int NONE = PierRings.NONE;
    private static final int REFUSED = PierRings.REFUSED;
    private static final int NOTHING = PierRings.NOTHING;

    public static void main(String[] args) {
        Due due = new Due("AccountsTest");
        reason(due);
        account(due);
        isBalanced(due);
        meanStretch(due);
        takenShare(due);
        undoEach(due);
        undoEachKind(due);
        undoNine(due);
        undoLeavesTheRest(due);
        saveAndRestore(due);
        restoreLeavesTheRest(due);
        due.end();
    }

    private static void reason(Due due) {
        PierRings x = new PierRings();
        x.pier(9);
        x.close(0);
        x.wouldMove(9);
        due.is("codes are no reasons", x.reason(false), NOTHING);
        due.is("codes have no detail", x.reason(true), NOTHING);
        x.pier(2);
        x.open(0);
        due.is("reason", x.reason(false), 3);
        due.is("detail", x.reason(true), 0);
        x.weigh(0, 9);
        x.weigh(0, 3);
        due.is("it stays", x.reason(false), 3);
        x.barge(1, 1);
        x.barge(1, 2);
        due.is("the latest", x.reason(false), 2);
        due.is("its detail", x.reason(true), 0);
        x.berth(60);
        due.is("the latest", x.reason(false), 3);
        due.is("its detail", x.reason(true), 60);
    }

    /** Room is for 20 and 10; of the homes, 40 tons are at the pier 0, and 10 at 1. */
    private static void account(Due due) {
        PierRings x = new PierRings();
        x.pier(2);
        x.pier(1);
        x.pier(4);
        x.close(2);
        x.berth(10);
        x.barge(Due.nameAt(0), 15);
        x.barge(Due.nameAt(1), 10);
        x.barge(Due.nameAt(2), 15);
        x.barge(Due.nameAt(193), 10);
        x.barge(Due.nameAt(168), 1);
        x.append('p');
        x.append('i');
        int[] want = {3, 2, 6, 5, 2, 1, 2, 51, 26, 30, 0, 10, 1, 2, 8};
        for (int what = 0; what <= 14; what++) {
            due.is("account(" + what + ")", x.account(what), want[what]);
        }
        due.is("account(-1)", x.account(-1), BAD);
        due.is("account(15)", x.account(15), BAD);
        due.is("4 of 5 have homes at 0, one moves", x.close(1), 1);
        due.is("account(10)", x.account(10), 1);
        due.is("account(12)", x.account(12), 1);
    }

    private static void isBalanced(Due due) {
        PierRings x = new PierRings();
        for (int pier = 0; pier < 8; pier++) {
            x.pier(1 + pier % 5);
            x.barge(100 * pier, 99);
            x.barge(77 * pier + 1, 50);
            due.is("isBalanced()", x.isBalanced(), 1);
        }
        due.is("asking changes nothing", x.account(1), 8);
        for (int pier = 0; pier < 8; pier++) {
            x.close(pier);
            due.is("isBalanced() with " + (7 - pier) + " open", x.isBalanced(), 1);
        }
    }

    private static void meanStretch(Due due) {
        PierRings x = new PierRings();
        due.isReal("no pier", x.meanStretch(), 0.0);
        for (int pier = 1; pier <= 8; pier++) {
            x.pier(1);
            due.isReal("meanStretch()", x.meanStretch(), 360.0 / (double) pier);
        }
        x.close(3);
        due.isReal("7 are open", x.meanStretch(), 360.0 / 7.0);
        PierRings y = new PierRings();
        y.pier(1);
        y.close(0);
        due.isReal("none is open", y.meanStretch(), 0.0);
    }

    private static void takenShare(Due due) {
        PierRings x = new PierRings();
        due.isReal("no room", x.takenShare(), 0.0f);
        x.barge(1, 20);
        x.pier(1);
        due.isReal("20 of 60", x.takenShare(), 20.0f / 60.0f);
        x.barge(2, 99);
        due.isReal("what lies nowhere does not count", x.takenShare(), 20.0f / 60.0f);
        x.barge(3, 40);
        due.isReal("all of it", x.takenShare(), 1.0f);
        x.pier(5);
        due.isReal("159 of 360", x.takenShare(), 159.0f / 360.0f);
        x.close(0);
        x.close(1);
        due.isReal("no room again", x.takenShare(), 0.0f);
    }

    private static void undoEach(Due due) {
        PierRings x = new PierRings();
        x.barge(Due.nameAt(57), 20);
        x.pier(1);
        x.pier(1);
        due.is("moved", x.account(10), 2);
        due.is("undo a pier", x.undo(), 2);
        due.is("piers", x.account(0), 1);
        due.is("the home", x.home(0), 0);
        due.is("it lies there", x.bargeOf(0, 3), 0);
        due.is("what moved is undone too", x.account(10), 1);
        x.close(0);
        due.is("undo a closing", x.undo(), 2);
        due.is("open", x.pierOf(0, 1), 1);
        due.is("moved", x.account(10), 1);
        x.weigh(0, 4);
        due.is("undo a weighing", x.undo(), 2);
        due.is("berths", x.pierOf(0, 0), 1);
        x.berth(19);
        due.is("undo a berth", x.undo(), 2);
        due.is("tons of a berth", x.account(11), 60);
        due.is("it lies there", x.bargeOf(0, 3), 0);
        x.load(0, 99);
        due.is("undo a load", x.undo(), 2);
        due.is("tons", x.bargeOf(0, 1), 20);
        x.leave(0);
        due.is("undo a leaving", x.undo(), 2);
        due.is("name", x.bargeOf(0, 0), Due.nameAt(57));
        Due.run(x, "barge 1 1;barge 2 2;pier 3");
        due.is("undo a run", x.undo(), 2);
        due.is("barges", x.account(3), 1);
        x.close(0);
        x.open(0);
        due.is("undo an opening", x.undo(), 3);
        due.is("closed", x.pierOf(0, 1), 0);
        due.is("undo", x.undo(), 2);
        due.is("undo", x.undo(), 1);
        due.is("undo", x.undo(), 0);
        due.is("all is undone", x.account(3), 0);
        due.is("undo", x.undo(), NOTHING);
    }

    /** All that changes can change, as one text. */
    private static String picture(PierRings x) {
        StringBuilder picture = new StringBuilder();
        for (int what = 0; what <= 12; what++) {
            picture.append(x.account(what)).append(' ');
        }
        for (int pier = 0; x.tell(pier) >= 0 && pier < 9; pier++) {
            picture.append(Due.line(x)).append(' ').append(x.pierOf(pier, 3)).append(' ');
        }
        for (int barge = 0; x.tellBarge(barge) >= 0 && barge < 25; barge++) {
            picture.append(Due.line(x)).append(' ').append(x.home(barge)).append(x.homeAgain(barge)).append(' ');
        }
        return picture.toString();
    }

    private static int change(PierRings x, int kind) {
        switch (kind) {
            case 0: return x.pier(2);
            case 1: return x.close(0);
            case 2: return x.open(0);
            case 3: return x.weigh(1, 4);
            case 4: return x.berth(25);
            case 5: return x.barge(1234, 56);
            case 6: return x.leave(0);
            case 7: return x.load(1, 17);
            default: return Due.run(x, "gone 0;barge 4321 65;pier 3");
        }
    }

    private static PierRings changed(int[] kinds, int changes) {
        PierRings x = new PierRings();
        x.pier(3);
        x.pier(1);
        x.barge(1, 30);
        x.barge(2, 40);
        x.barge(3, 50);
        for (int i = 0; i < changes; i++) {
            change(x, kinds[i]);
        }
        return x;
    }

    private static void undoEachKind(Due due) {
        int[][] rows = {{0, 1, 2, 3, 4, 5, 6, 7}, {8, 7, 6, 5, 4, 3, 1, 2}};
        for (int[] kinds : rows) {
            for (int changes = 0; changes < kinds.length; changes++) {
                PierRings x = changed(kinds, changes);
                String before = picture(x);
                due.is("change " + kinds[changes], change(x, kinds[changes]) >= 0 ? 1 : 0, 1);
                due.is("undo of " + kinds[changes], x.undo(), Math.min(7, 5 + changes));
                due.isText("as before the change " + kinds[changes], picture(x), before);
            }
            PierRings all = changed(kinds, kinds.length);
            for (int left = 7; left >= 0; left--) {
                due.is("undo()", all.undo(), left);
            }
            due.isText("as before all changes", picture(all), picture(changed(kinds, 0)));
        }
    }

    private static void undoNine(Due due) {
        PierRings x = new PierRings();
        for (int name = 0; name < 9; name++) {
            x.barge(name, 1);
            due.is("changes", x.account(14), Math.min(name + 1, 8));
        }
        x.barge(0, 1);
        x.barge(0, 0);
        due.is("codes are no changes", x.account(14), 8);
        for (int left = 7; left >= 0; left--) {
            due.is("undo()", x.undo(), left);
            due.is("barges", x.account(3), left + 1);
        }
        due.is("the 9th", x.undo(), NOTHING);
        due.is("one barge", x.account(3), 1);
        due.is("its name", x.bargeOf(0, 0), 0);
        for (int name = 1; name < 20; name++) {
            x.barge(name, 1);
        }
        due.is("undo()", x.undo(), 7);
        x.pier(1);
        due.is("changes", x.account(14), 8);
        due.is("undo()", x.undo(), 7);
        due.is("barges", x.account(3), 19);
    }

    private static void undoLeavesTheRest(Due due) {
        PierRings x = new PierRings();
        x.pier(1);
        x.tell(0);
        x.open(0);
        x.append('p');
        x.undo();
        due.isText("the line stays", Due.line(x), "0*1:");
        due.is("the reason stays", x.reason(false), 3);
        due.is("the detail stays", x.reason(true), 0);
        due.is("the text stays", x.account(13), 1);
    }

    private static void saveAndRestore(Due due) {
        PierRings x = new PierRings();
        due.is("restore(), no snapshot", x.restore(), NOTHING);
        x.pier(2);
        x.close(0);
        x.barge(5, 7);
        due.is("NOTHING leaves the changes", x.account(14), 3);
        due.is("save()", x.save(), 1);
        due.is("save is no change", x.account(14), 3);
        x.open(0);
        x.berth(11);
        x.weigh(0, 3);
        x.load(0, 8);
        x.barge(6, 8);
        x.pier(1);
        due.is("moved", x.account(10), 1);
        due.is("restore()", x.restore(), 1);
        int[] want = {1, 0, 0, 1, 0, 0, 1, 7, 0, 0, 0, 60, 0, 0, 0};
        for (int what = 0; what <= 14; what++) {
            due.is("restored: account(" + what + ")", x.account(what), want[what]);
        }
        due.is("berths", x.pierOf(0, 0), 2);
        due.is("home", x.home(0), NOTHING);
        due.is("no second barge", x.bargeOf(1, 0), NONE);
        due.is("undo()", x.undo(), NOTHING);
        x.leave(0);
        x.open(0);
        due.is("undo()", x.undo(), 1);
        due.is("the snapshot stays", x.restore(), 1);
        due.is("its name", x.bargeOf(0, 0), 5);
        x.barge(9, 9);
        due.is("save() in place of it", x.save(), 2);
        x.undo();
        due.is("it is not undone", x.restore(), 2);
        due.is("its name", x.bargeOf(1, 0), 9);
    }

    private static void restoreLeavesTheRest(Due due) {
        PierRings x = new PierRings();
        x.save();
        x.pier(1);
        x.tell(0);
        x.append('p');
        due.is("open(0)", x.open(0), REFUSED);
        due.is("restore()", x.restore(), 0);
        due.isText("the line stays", Due.line(x), "0*1:");
        due.is("the reason stays", x.reason(false), 3);
        due.is("the text stays", x.account(13), 1);
        due.is("no pier", x.account(0), 0);
    }
}
