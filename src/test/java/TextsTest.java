/** Promises 21 to 25. */
public final class TextsTest {
    private static final int NONE = PierRings.NONE;
    private static final int BAD = PierRings.BAD;
    private static final int FULL = PierRings.FULL;
    private static final int REFUSED = PierRings.REFUSED;
    private static final int NOTHING = PierRings.NOTHING;

    public static void main(String[] args) {
        Due due = new Due("TextsTest");
        append(due);
        faultsOfWords(due);
        faultsOfNumbers(due);
        faultAtTheEnd(due);
        runEachOrder(due);
        runManyOrders(due);
        runRefused(due);
        runOutOfRange(due);
        tell(due);
        tellBarge(due);
        character(due);
        due.end();
    }

    private static void append(Due due) {
        PierRings x = new PierRings();
        due.is("append(31)", x.append(31), BAD);
        due.is("append(127)", x.append(127), BAD);
        due.is("append(65536 + 65)", x.append(65536 + 65), BAD);
        due.is("append(32)", x.append(32), 1);
        due.is("append(126)", x.append(126), 2);
        for (int length = 3; length <= 60; length++) {
            due.is("append(65)", x.append(65), length);
        }
        due.is("the 61st", x.append(65), FULL);
        due.is("BAD first", x.append(31), BAD);
        due.is("still 60", x.account(13), 60);
        due.is("run()", x.run(), -1000);
        due.is("it is empty then", x.account(13), 0);
        due.is("append(65)", x.append(65), 1);
    }

    private static void fault(Due due, String text, int position) {
        PierRings x = new PierRings();
        due.is("run() of '" + text + "'", Due.run(x, text), -1000 - position);
        due.is("no pier", x.account(0), 0);
        due.is("no change", x.account(14), 0);
        due.is("the text is empty", x.account(13), 0);
        due.is("no reason", x.reason(false), NOTHING);
    }

    private static void faultsOfWords(Due due) {
        fault(due, "", 0);
        fault(due, ";", 0);
        fault(due, " pier 1", 0);
        fault(due, "Pier 1", 0);
        fault(due, "x", 0);
        fault(due, "p", 1);
        fault(due, "pier", 4);
        fault(due, "pier1", 4);
        fault(due, "piers", 4);
        fault(due, "pear 1", 1);
        fault(due, "clone 1", 3);
        fault(due, "onen 1", 1);
        fault(due, "opex 1", 3);
        fault(due, "b", 1);
        fault(due, "bi", 1);
        fault(due, "bax", 2);
        fault(due, "bex", 2);
        fault(due, "barth 10", 3);
        fault(due, "berge 1 1", 3);
        fault(due, "goon 1", 2);
        fault(due, "lead 1 1", 1);
        fault(due, "wei", 3);
        fault(due, "weight 1 1", 5);
    }

    private static void faultsOfNumbers(Due due) {
        fault(due, "pier ", 5);
        fault(due, "pier  1", 5);
        fault(due, "pier x", 5);
        fault(due, "pier -1", 5);
        fault(due, "pier /", 5);
        fault(due, "pier :", 5);
        fault(due, "pier 01", 6);
        fault(due, "pier 1 ", 6);
        fault(due, "pier 1;", 7);
        fault(due, "pier 1;;", 7);
        fault(due, "pier 1; pier 1", 7);
        fault(due, "pier 1;pier", 11);
        fault(due, "pier 1;bad", 9);
        fault(due, "close 10", 7);
        fault(due, "open 10", 6);
        fault(due, "weigh 10", 7);
        fault(due, "weigh 1", 7);
        fault(due, "weigh 1;", 7);
        fault(due, "weigh 1 ", 8);
        fault(due, "weigh 1 23", 9);
        fault(due, "barge 12345 1", 10);
        fault(due, "barge 1234", 10);
        fault(due, "barge 1234 ", 11);
        fault(due, "barge 1234 ;", 11);
        fault(due, "barge 1 100", 10);
        fault(due, "gone 123", 7);
        fault(due, "load 123", 7);
        fault(due, "load 12 345", 10);
        fault(due, "load 1 2 3", 8);
        fault(due, "berth 1000", 9);
        fault(due, "berth 10 1", 8);
    }

    private static void faultAtTheEnd(Due due) {
        fault(due, "barge 0 1;barge 1 1;barge 2 1;barge 3 1;barge 4 1;pie", 53);
        fault(due, "barge 1000 10;barge 1001 10;barge 1002 10;barge 1003 10;pier", 60);
        PierRings x = new PierRings();
        Due.write(x, "pier 1;barge 1000 10;barge 1001 10;barge 1002 10;barge 10 10");
        due.is("a full text", x.account(13), 60);
        due.is("is read to its end", x.run(), 5);
        due.is("its last number", x.bargeOf(3, 1), 10);
    }

    private static void runEachOrder(Due due) {
        PierRings x = new PierRings();
        due.is("pier 3", Due.run(x, "pier 3"), 1);
        due.is("its berths", x.pierOf(0, 0), 3);
        due.is("close 0", Due.run(x, "close 0"), 1);
        due.is("closed", x.pierOf(0, 1), 0);
        due.is("open 0", Due.run(x, "open 0"), 1);
        due.is("open", x.pierOf(0, 1), 1);
        due.is("weigh 0 5", Due.run(x, "weigh 0 5"), 1);
        due.is("its berths", x.pierOf(0, 0), 5);
        due.is("barge 9876 54", Due.run(x, "barge 9876 54"), 1);
        due.is("its name", x.bargeOf(0, 0), 9876);
        due.is("its tons", x.bargeOf(0, 1), 54);
        due.is("barge 0007 05", Due.run(x, "barge 0007 05"), 1);
        due.is("its name", x.bargeOf(1, 0), 7);
        due.is("its tons", x.bargeOf(1, 1), 5);
        due.is("load 01 9", Due.run(x, "load 01 9"), 1);
        due.is("its tons", x.bargeOf(1, 1), 9);
        due.is("gone 0", Due.run(x, "gone 0"), 1);
        due.is("one is left", x.account(3), 1);
        due.is("berth 200", Due.run(x, "berth 200"), 1);
        due.is("the tons", x.account(11), 200);
        due.is("berth 15", Due.run(x, "berth 15"), 1);
        due.is("the tons", x.account(11), 15);
        due.is("8 changes", x.account(14), 8);
        due.is("no reason", x.reason(false), NOTHING);
    }

    private static void runManyOrders(Due due) {
        PierRings x = new PierRings();
        due.is("8 piers", Due.run(x, "pier 1;pier 2;pier 3;pier 4;pier 5;pier 4;pier 3;pier 2"), 8);
        due.is("they are there", x.account(0), 8);
        due.is("one change", x.account(14), 1);
        due.is("the text is empty", x.account(13), 0);
        due.is("one after the other", Due.run(x, "barge 1 5;load 0 6;gone 0;barge 1 7;close 0;open 0"), 6);
        due.is("its tons", x.bargeOf(0, 1), 7);
        due.is("two changes", x.account(14), 2);
        due.is("undone at once", x.undo(), 1);
        due.is("no barge", x.account(3), 0);
        due.is("nothing is different", Due.run(x, "barge 1 5;gone 0"), 2);
        due.is("a change all the same", x.account(14), 2);
    }

    private static void runRefused(Due due) {
        PierRings x = new PierRings();
        x.pier(1);
        x.pier(1);
        x.barge(Due.nameAt(57), 5);
        x.close(0);
        int moved = x.account(10);
        due.is("the third one fails", Due.run(x, "open 0;close 1;close 1;pier 4"), REFUSED);
        due.is("its reason", x.reason(false), 4);
        due.is("its detail", x.reason(true), 2);
        due.is("0 is closed", x.pierOf(0, 1), 0);
        due.is("1 is open", x.pierOf(1, 1), 1);
        due.is("the home", x.home(0), 1);
        due.is("the home again", x.homeAgain(0), 1);
        due.is("it lies there", x.bargeOf(0, 3), 1);
        due.is("nothing moved", x.account(10), moved);
        due.is("no change", x.account(14), 4);
        due.is("the text is empty", x.account(13), 0);
        due.is("a fault before an order that fails", Due.run(x, "close 0;pier x"), -1013);
        due.is("keeps the reason", x.reason(true), 2);
        due.is("the first one fails", Due.run(x, "close 0"), REFUSED);
        due.is("its reason is not that of close", x.reason(false), 4);
        due.is("its detail", x.reason(true), 0);
    }

    private static void runOutOfRange(Due due) {
        String[] orders = {"pier 0", "pier 6", "close 1", "open 9", "weigh 0 0", "weigh 1 1", "barge 1 0", "barge 5 7",
            "barge 1 00", "gone 2", "gone 99", "load 0 0", "load 1 1", "load 0 9", "berth 9", "berth 201", "berth 0",
            "berth 60", "weigh 0 2", "open 0"};
        PierRings x = new PierRings();
        x.pier(2);
        x.barge(5, 9);
        for (String order : orders) {
            due.is("barge 6 1;" + order, Due.run(x, "barge 6 1;" + order), REFUSED);
            due.is("its reason", x.reason(false), 4);
            due.is("its detail", x.reason(true), 1);
            due.is("one barge", x.account(3), 1);
        }
        due.is("changes", x.account(14), 2);
    }

    private static void told(Due due, PierRings x, int length, String line) {
        due.is("the length of " + line, length, line.length());
        due.isText("the line", Due.line(x), line);
    }

    private static void tell(Due due) {
        PierRings x = new PierRings();
        due.is("tell(0), no pier", x.tell(0), NONE);
        x.pier(3);
        x.pier(1);
        told(due, x, x.tell(0), "0*3:");
        x.berth(10);
        x.barge(Due.nameAt(0), 10);
        x.barge(Due.nameAt(137), 10);
        x.barge(Due.nameAt(1), 19);
        x.barge(Due.nameAt(2), 2);
        x.barge(Due.nameAt(3), 1);
        told(due, x, x.tell(0), "0*3:0,2,4");
        told(due, x, x.tell(1), "1*1:1");
        x.close(1);
        told(due, x, x.tell(1), "1*1x:");
        due.is("tell(2)", x.tell(2), NONE);
        due.is("tell(-1)", x.tell(-1), NONE);
        due.isText("the line stays", Due.line(x), "1*1x:");

        PierRings y = new PierRings();
        y.pier(5);
        for (int name = 0; name < 24; name++) {
            y.barge(name, 1);
        }
        told(due, y, y.tell(0), "0*5:0,1,2,3,4,5,6,7,8,9,10,11,12,13,14,15,16,17,18,19,20,21,22,23");
    }

    private static void tellBarge(Due due) {
        PierRings x = new PierRings();
        due.is("tellBarge(0), no barge", x.tellBarge(0), NONE);
        x.barge(0, 9);
        x.barge(Due.nameAt(0), 20);
        told(due, x, x.tellBarge(0), "0=0@11+9>-");
        x.pier(1);
        told(due, x, x.tellBarge(0), "0=0@11+9>0");
        told(due, x, x.tellBarge(1), "1=97@0+20>0");
        for (int number = 2; number < 11; number++) {
            x.barge(9997 - number, 99);
        }
        told(due, x, x.tellBarge(10), "10=9987@170+99>-");
        x.barge(1000, 1);
        told(due, x, x.tellBarge(11), "11=1000@291+1>0");
        due.is("tellBarge(12)", x.tellBarge(12), NONE);
        due.is("tellBarge(-1)", x.tellBarge(-1), NONE);
        due.isText("the line stays", Due.line(x), "11=1000@291+1>0");
        x.undo();
        due.isText("it is not undone", Due.line(x), "11=1000@291+1>0");
    }

    private static void character(Due due) {
        PierRings x = new PierRings();
        due.is("character(0), empty", x.character(0), NONE);
        x.pier(2);
        x.tell(0);
        due.is("character(0)", x.character(0), '0');
        due.is("character(1)", x.character(1), '*');
        due.is("character(3)", x.character(3), ':');
        due.is("character(4)", x.character(4), NONE);
        due.is("character(-1)", x.character(-1), NONE);
        due.is("character(least)", x.character(Integer.MIN_VALUE), NONE);
        due.is("character(most)", x.character(Integer.MAX_VALUE), NONE);
        x.barge(1234, 56);
        x.tellBarge(0);
        due.is("character(4)", x.character(4), '3');
        x.tell(0);
        due.is("a shorter line: character(5)", x.character(5), NONE);
    }
}
