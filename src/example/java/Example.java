/** A walk through PierRings. README.md shows it, and what it prints. */
public final class Example {
    public static void main(String[] args) {
        PierRings ring = new PierRings();

        // A pier joins with its berths, a barge comes with its name and its tons; both get numbers, from 0.
        int north = ring.pier(2);
        int south = ring.pier(1);
        int anna = ring.barge(77, 20);
        int bella = ring.barge(3, 50);
        int clara = ring.barge(42, 99);
        System.out.println("piers " + north + " " + south + ", barges " + anna + " " + bella + " " + clara);

        // What is asked for of a pier or of a barge is told by a second number.
        System.out.println("the room of south is " + ring.pierOf(south, 8) + ", its stretch " + ring.pierOf(south, 3));
        System.out.println("the point of clara is " + ring.bargeOf(clara, 2) + ", her home " + ring.home(clara));
        System.out.println("she lies at " + ring.bargeOf(clara, 3) + " and passes " + ring.bargeOf(clara, 4));

        // Codes are below 0. Behind REFUSED stand a reason and its detail: here, the barge that has this name.
        if (ring.barge(3, 10) == PierRings.REFUSED) {
            System.out.println("refused for the reason " + ring.reason(false) + ", the barge " + ring.reason(true));
        }

        // What would be can be asked ahead of what is done.
        System.out.println("homes that would move " + ring.wouldClose(south) + ", that move " + ring.close(south));
        if (ring.bargeOf(clara, 3) == PierRings.NOTHING) {
            System.out.println("clara lies nowhere");
        }

        // Orders are appended character by character and carried out together, all or none.
        write(ring, "open 1;weigh 1 3;gone 0");
        System.out.println("orders " + ring.run());
        write(ring, "weigh 1 3;gome 0");
        System.out.println("fault at " + (-1000 - ring.run()));

        // A line is read character by character. Anna, the barge 0, has left: the later numbers are 1 less.
        ring.tell(south);
        System.out.println(line(ring));
        ring.tellBarge(clara - 1);
        System.out.println(line(ring));

        // The latest 8 changes can be undone, a run as one of them; the snapshot stays until it is saved anew.
        System.out.println("saved with " + ring.save() + " barges");
        System.out.println("changes left to undo " + ring.undo() + ", barges then " + ring.account(3));
        System.out.println("restored with " + ring.restore() + " barges, balanced " + ring.isBalanced());
    }

    private static void write(PierRings ring, String text) {
        for (int i = 0; i < text.length(); i++) {
            ring.append(text.charAt(i));
        }
    }

    private static String line(PierRings ring) {
        StringBuilder line = new StringBuilder();
        for (int i = 0; ring.character(i) != PierRings.NONE; i++) {
            line.append((char) ring.character(i));
        }
        return line.toString();
    }
}
