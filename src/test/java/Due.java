import java.util.Locale;

/** Compares answers with those that are due, prints each that is another, and ends with exit code 1 then. */
final class Due {
    private static final int MOST_PRINTED = 40;

    private final String test;
    private String from;
    private int compared = 0;
    private int wrong = 0;

    Due(String test) {
        this.test = test;
        this.from = test;
    }

    /** What is compared from here on is told with this name. */
    void begin(String name) {
        from = test + ", " + name;
    }

    void is(String call, long got, long want) {
        compared++;
        if (got != want) {
            tellWrong(call, Long.toString(got), Long.toString(want));
        }
    }

    void isReal(String call, double got, double want) {
        compared++;
        if (got != want) {
            tellWrong(call, Double.toString(got), Double.toString(want));
        }
    }

    void isText(String call, String got, String want) {
        compared++;
        if (!got.equals(want)) {
            tellWrong(call, got, want);
        }
    }

    /** Something that no answer tells is wrong. */
    void fail(String why) {
        compared++;
        tellWrong(why, "it", "none of it");
    }

    private void tellWrong(String call, String got, String want) {
        wrong++;
        if (wrong <= MOST_PRINTED) {
            System.out.println(String.format(Locale.ROOT, "%s: %s answered %s, due is %s", from, call, got, want));
        }
    }

    int compared() {
        return compared;
    }

    int wrong() {
        return wrong;
    }

    void end() {
        System.out.println(test + ": " + compared + " answers compared, " + wrong + " wrong");
        if (wrong != 0 || compared == 0) {
            System.exit(1);
        }
    }

    /** The lowest name that tells a point: 37 times 253 is 1 more than a multiple of 360. */
    static int nameAt(int point) {
        return Math.floorMod((point - 11) * 253, 360);
    }

    static void write(PierRings x, String text) {
        for (int i = 0; i < text.length(); i++) {
            x.append(text.charAt(i));
        }
    }

    static int run(PierRings x, String text) {
        write(x, text);
        return x.run();
    }

    static String line(PierRings x) {
        StringBuilder line = new StringBuilder();
        for (int i = 0; x.character(i) != PierRings.NONE && i < 1000; i++) {
            line.append((char) x.character(i));
        }
        return line.toString();
    }
}
