import java.util.ArrayDeque;
import java.util.ArrayList;
import java.util.Comparator;
import java.util.Deque;
import java.util.List;
import java.util.Map;
import java.util.TreeMap;
import java.util.regex.Matcher;
import java.util.regex.Pattern;

/** The document once more, slowly and by other means, to compare PierRings with. */
final class Model {
    private static final int NONE = -11;
    private static final int BAD = -12;
    private static final int FULL = -13;
    private static final int REFUSED = -14;
    private static final int NOTHING = -15;

    private static final String ORDER = "(?:pier \\d|close \\d|open \\d|weigh \\d \\d|barge \\d{1,4} \\d{1,2}"
            + "|gone \\d{1,2}|load \\d{1,2} \\d{1,2}|berth \\d{1,3})";
    private static final Pattern TEXT = Pattern.compile(ORDER + "(?:;" + ORDER + ")*");

    record Pier(int berths, boolean open) { }

    record Barge(int name, int tons) {
        int point() {
            return (37 * name + 11) % 360;
        }
    }

    record Point(int pier, int number) { }

    record State(List<Pier> piers, List<Barge> barges, int berthTons, int moved) {
        int room(int pier) {
            return piers.get(pier).open() ? piers.get(pier).berths() * berthTons : 0;
        }
    }

    private static final class Node {
        private final int point;
        private Node left;
        private Node right;

        private Node(int point) {
            this.point = point;
        }
    }

    private State now = new State(List.of(), List.of(), 60, 0);
    private State saved = null;
    private final Deque<State> before = new ArrayDeque<>();
    private String text = "";
    private String line = "";
    private int reason = NOTHING;
    private int detail = NOTHING;

    // ---- what is told from a state

    private static TreeMap<Integer, Point> points(List<Pier> piers) {
        TreeMap<Integer, Point> all = new TreeMap<>();
        for (int p = 0; p < piers.size(); p++) {
            for (int j = 0; piers.get(p).open() && j < 2 * piers.get(p).berths(); j++) {
                all.put(8 * ((17 * p + 7 * j) % 45) + p, new Point(p, j));
            }
        }
        return all;
    }

    private static int home(List<Pier> piers, int point) {
        TreeMap<Integer, Point> all = points(piers);
        if (all.isEmpty()) {
            return NOTHING;
        }
        Map.Entry<Integer, Point> next = all.ceilingEntry(point);
        return (next == null ? all.firstEntry() : next).getValue().pier();
    }

    private static int moved(State from, List<Pier> then) {
        int moved = 0;
        for (Barge barge : from.barges()) {
            moved += home(from.piers(), barge.point()) == home(then, barge.point()) ? 0 : 1;
        }
        return moved;
    }

    /** Of each barge: the pier at which it lies, and the points that it passes. */
    private static List<int[]> lying(State s) {
        TreeMap<Integer, Point> all = points(s.piers());
        int[] taken = new int[s.piers().size()];
        List<int[]> answer = new ArrayList<>();
        for (Barge barge : s.barges()) {
            List<Point> way = new ArrayList<>(all.tailMap(barge.point()).values());
            way.addAll(all.headMap(barge.point()).values());
            int passed = 0;
            while (passed < way.size() && !hasRoom(s, way.get(passed).pier(), taken, barge)) {
                passed++;
            }
            int pier = passed < way.size() ? way.get(passed).pier() : NOTHING;
            if (pier != NOTHING) {
                taken[pier] += barge.tons();
            }
            answer.add(new int[] {pier, passed});
        }
        return answer;
    }

    private static boolean hasRoom(State s, int pier, int[] taken, Barge barge) {
        return taken[pier] + barge.tons() <= s.room(pier);
    }

    private static Map<Integer, Integer> depths(List<Pier> piers) {
        Map<Integer, Integer> depths = new TreeMap<>();
        Node top = null;
        for (int p = 0; p < piers.size(); p++) {
            for (int j = 0; piers.get(p).open() && j < 2 * piers.get(p).berths(); j++) {
                int point = 8 * ((17 * p + 7 * j) % 45) + p;
                depths.put(point, depthOfNew(top, point, 0));
                top = put(top, point);
            }
        }
        return depths;
    }

    private static int depthOfNew(Node node, int point, int above) {
        if (node == null) {
            return above;
        }
        return depthOfNew(point < node.point ? node.left : node.right, point, above + 1);
    }

    private static Node put(Node node, int point) {
        if (node == null) {
            return new Node(point);
        }
        if (point < node.point) {
            node.left = put(node.left, point);
        } else {
            node.right = put(node.right, point);
        }
        return node;
    }

    private static List<Pier> with(List<Pier> piers, int pier, Pier other) {
        List<Pier> then = new ArrayList<>(piers);
        if (pier == then.size()) {
            then.add(other);
        } else {
            then.set(pier, other);
        }
        return List.copyOf(then);
    }

    private boolean hasPier(int pier) {
        return pier >= 0 && pier < now.piers().size();
    }

    private boolean hasBarge(int barge) {
        return barge >= 0 && barge < now.barges().size();
    }

    private static boolean isFrom(int number, int least, int most) {
        return number >= least && number <= most;
    }

    private int refuse(int why, int what) {
        reason = why;
        detail = what;
        return REFUSED;
    }

    private int done(State was, int answer) {
        if (answer >= 0) {
            before.addLast(was);
            if (before.size() > 8) {
                before.removeFirst();
            }
        }
        return answer;
    }

    private int movePiers(List<Pier> then) {
        int moved = moved(now, then);
        now = new State(then, now.barges(), now.berthTons(), now.moved() + moved);
        return moved;
    }

    // ---- changes

    int pier(int berths) {
        return done(now, doPier(berths));
    }

    private int doPier(int berths) {
        if (!isFrom(berths, 1, 5)) {
            return BAD;
        }
        int number = now.piers().size();
        if (number == 8) {
            return refuse(1, 8);
        }
        movePiers(with(now.piers(), number, new Pier(berths, true)));
        return number;
    }

    int close(int pier) {
        return done(now, doOpen(pier, false));
    }

    int open(int pier) {
        return done(now, doOpen(pier, true));
    }

    private int doOpen(int pier, boolean open) {
        if (!hasPier(pier)) {
            return NONE;
        }
        Pier was = now.piers().get(pier);
        if (was.open() == open) {
            return refuse(3, pier);
        }
        return movePiers(with(now.piers(), pier, new Pier(was.berths(), open)));
    }

    int weigh(int pier, int berths) {
        return done(now, doWeigh(pier, berths));
    }

    private int doWeigh(int pier, int berths) {
        if (!hasPier(pier)) {
            return NONE;
        }
        if (!isFrom(berths, 1, 5)) {
            return BAD;
        }
        Pier was = now.piers().get(pier);
        if (was.berths() == berths) {
            return refuse(3, berths);
        }
        return movePiers(with(now.piers(), pier, new Pier(berths, was.open())));
    }

    int berth(int tons) {
        return done(now, doBerth(tons));
    }

    private int doBerth(int tons) {
        if (!isFrom(tons, 10, 200)) {
            return BAD;
        }
        int was = now.berthTons();
        if (was == tons) {
            return refuse(3, tons);
        }
        now = new State(now.piers(), now.barges(), tons, now.moved());
        return was;
    }

    int barge(int name, int tons) {
        return done(now, doBarge(name, tons));
    }

    private int doBarge(int name, int tons) {
        if (!isFrom(name, 0, 9999) || !isFrom(tons, 1, 99)) {
            return BAD;
        }
        for (int b = 0; b < now.barges().size(); b++) {
            if (now.barges().get(b).name() == name) {
                return refuse(2, b);
            }
        }
        if (now.barges().size() == 24) {
            return refuse(1, 24);
        }
        List<Barge> then = new ArrayList<>(now.barges());
        then.add(new Barge(name, tons));
        now = new State(now.piers(), then, now.berthTons(), now.moved());
        return then.size() - 1;
    }

    int leave(int barge) {
        return done(now, doLeave(barge));
    }

    private int doLeave(int barge) {
        if (!hasBarge(barge)) {
            return NONE;
        }
        List<Barge> then = new ArrayList<>(now.barges());
        then.remove(barge);
        now = new State(now.piers(), then, now.berthTons(), now.moved());
        return then.size();
    }

    int load(int barge, int tons) {
        return done(now, doLoad(barge, tons));
    }

    private int doLoad(int barge, int tons) {
        if (!hasBarge(barge)) {
            return NONE;
        }
        if (!isFrom(tons, 1, 99)) {
            return BAD;
        }
        Barge was = now.barges().get(barge);
        if (was.tons() == tons) {
            return refuse(3, tons);
        }
        List<Barge> then = new ArrayList<>(now.barges());
        then.set(barge, new Barge(was.name(), tons));
        now = new State(now.piers(), then, now.berthTons(), now.moved());
        return was.tons();
    }

    int append(int code) {
        if (!isFrom(code, 32, 126)) {
            return BAD;
        }
        if (text.length() == 60) {
            return FULL;
        }
        text += (char) code;
        return text.length();
    }

    int run() {
        String orders = text;
        text = "";
        Matcher whole = TEXT.matcher(orders);
        if (!whole.matches()) {
            return -1000 - fault(orders);
        }
        State was = now;
        String[] each = orders.split(";");
        for (int i = 0; i < each.length; i++) {
            if (carryOut(each[i].split(" ")) < 0) {
                now = was;
                return refuse(4, i);
            }
        }
        return done(was, each.length);
    }

    private static int fault(String orders) {
        for (int i = 0; i < orders.length(); i++) {
            Matcher start = TEXT.matcher(orders.substring(0, i + 1));
            if (!start.matches() && !start.hitEnd()) {
                return i;
            }
        }
        return orders.length();
    }

    private int carryOut(String[] words) {
        int first = Integer.parseInt(words[1]);
        int second = words.length > 2 ? Integer.parseInt(words[2]) : 0;
        return switch (words[0]) {
            case "pier" -> doPier(first);
            case "close" -> doOpen(first, false);
            case "open" -> doOpen(first, true);
            case "weigh" -> doWeigh(first, second);
            case "barge" -> doBarge(first, second);
            case "gone" -> doLeave(first);
            case "load" -> doLoad(first, second);
            case "berth" -> doBerth(first);
            default -> throw new IllegalStateException(words[0]);
        };
    }

    int undo() {
        if (before.isEmpty()) {
            return NOTHING;
        }
        now = before.removeLast();
        return before.size();
    }

    int save() {
        saved = now;
        return now.barges().size();
    }

    int restore() {
        if (saved == null) {
            return NOTHING;
        }
        now = saved;
        before.clear();
        return now.barges().size();
    }

    // ---- questions

    int pierOf(int pier, int what) {
        if (!hasPier(pier)) {
            return NONE;
        }
        Pier it = now.piers().get(pier);
        return switch (what) {
            case 0 -> it.berths();
            case 1 -> it.open() ? 1 : 0;
            case 2 -> it.open() ? 2 * it.berths() : 0;
            case 3 -> stretch(pier);
            case 4 -> homeSum(pier, false);
            case 5 -> homeSum(pier, true);
            case 6 -> lyingSum(pier, false);
            case 7 -> lyingSum(pier, true);
            case 8 -> now.room(pier);
            case 9 -> homeSum(pier, true) > now.room(pier) ? 1 : 0;
            default -> BAD;
        };
    }

    private int stretch(int pier) {
        int stretch = 0;
        for (int point = 0; point < 360; point++) {
            stretch += home(now.piers(), point) == pier ? 1 : 0;
        }
        return stretch;
    }

    private int homeSum(int pier, boolean isTons) {
        int sum = 0;
        for (Barge barge : now.barges()) {
            sum += home(now.piers(), barge.point()) == pier ? (isTons ? barge.tons() : 1) : 0;
        }
        return sum;
    }

    private int lyingSum(int pier, boolean isTons) {
        int sum = 0;
        List<int[]> lying = lying(now);
        for (int b = 0; b < lying.size(); b++) {
            sum += lying.get(b)[0] == pier ? (isTons ? now.barges().get(b).tons() : 1) : 0;
        }
        return sum;
    }

    int neighbours(int pier) {
        if (!hasPier(pier)) {
            return NONE;
        }
        List<Pier> then = with(now.piers(), pier, new Pier(now.piers().get(pier).berths(), false));
        int set = 0;
        for (int point = 0; point < 360; point++) {
            int other = home(then, point);
            if (home(now.piers(), point) == pier && other != NOTHING) {
                set |= 1 << other;
            }
        }
        return set;
    }

    int bargeOf(int barge, int what) {
        if (!hasBarge(barge)) {
            return NONE;
        }
        Barge it = now.barges().get(barge);
        return switch (what) {
            case 0 -> it.name();
            case 1 -> it.tons();
            case 2 -> it.point();
            case 3 -> lying(now).get(barge)[0];
            case 4 -> lying(now).get(barge)[1];
            default -> BAD;
        };
    }

    int home(int barge) {
        return hasBarge(barge) ? home(now.piers(), now.barges().get(barge).point()) : NONE;
    }

    int homeOf(int point) {
        return isFrom(point, 0, 359) ? home(now.piers(), point) : NONE;
    }

    int ring(int place, int what) {
        TreeMap<Integer, Point> all = points(now.piers());
        if (!isFrom(place, 0, all.size() - 1)) {
            return NONE;
        }
        int point = new ArrayList<>(all.keySet()).get(place);
        return switch (what) {
            case 0 -> point;
            case 1 -> all.get(point).pier();
            case 2 -> all.get(point).number();
            case 3 -> depths(now.piers()).get(point);
            default -> BAD;
        };
    }

    int deep() {
        int deep = 0;
        for (int above : depths(now.piers()).values()) {
            deep = Math.max(deep, above + 1);
        }
        return deep;
    }

    int wouldMove(int berths) {
        if (!isFrom(berths, 1, 5)) {
            return BAD;
        }
        int number = now.piers().size();
        return number == 8 ? FULL : moved(now, with(now.piers(), number, new Pier(berths, true)));
    }

    int wouldClose(int pier) {
        if (!hasPier(pier)) {
            return NONE;
        }
        Pier it = now.piers().get(pier);
        return it.open() ? moved(now, with(now.piers(), pier, new Pier(it.berths(), false))) : NOTHING;
    }

    int hottest(int place) {
        List<Integer> order = new ArrayList<>();
        for (int p = 0; p < now.piers().size(); p++) {
            order.add(p);
        }
        order.sort(Comparator.<Integer>comparingInt(p -> now.room(p) - homeSum(p, true))
                .thenComparingInt(p -> now.piers().get(p).berths())
                .thenComparingInt(p -> p));
        return isFrom(place, 0, order.size() - 1) ? order.get(place) : NONE;
    }

    int tell(int pier) {
        if (!hasPier(pier)) {
            return NONE;
        }
        List<String> there = new ArrayList<>();
        List<int[]> lying = lying(now);
        for (int b = 0; b < lying.size(); b++) {
            if (lying.get(b)[0] == pier) {
                there.add(Integer.toString(b));
            }
        }
        Pier it = now.piers().get(pier);
        line = pier + "*" + it.berths() + (it.open() ? "" : "x") + ":" + String.join(",", there);
        return line.length();
    }

    int tellBarge(int barge) {
        if (!hasBarge(barge)) {
            return NONE;
        }
        Barge it = now.barges().get(barge);
        int at = lying(now).get(barge)[0];
        line = barge + "=" + it.name() + "@" + it.point() + "+" + it.tons() + ">" + (at == NOTHING ? "-" : "" + at);
        return line.length();
    }

    int character(int index) {
        return isFrom(index, 0, line.length() - 1) ? line.charAt(index) : NONE;
    }

    int reason(boolean isDetail) {
        return isDetail ? detail : reason;
    }

    int account(int what) {
        int atHome = 0;
        int lies = 0;
        int lyingTons = 0;
        int tons = 0;
        List<int[]> lying = lying(now);
        for (int b = 0; b < lying.size(); b++) {
            int at = lying.get(b)[0];
            atHome += at != NOTHING && at == home(b) ? 1 : 0;
            lies += at != NOTHING ? 1 : 0;
            lyingTons += at != NOTHING ? now.barges().get(b).tons() : 0;
            tons += now.barges().get(b).tons();
        }
        int open = 0;
        int hot = 0;
        for (int p = 0; p < now.piers().size(); p++) {
            open += pierOf(p, 1);
            hot += pierOf(p, 9);
        }
        return switch (what) {
            case 0 -> now.piers().size();
            case 1 -> open;
            case 2 -> points(now.piers()).size();
            case 3 -> lying.size();
            case 4 -> atHome;
            case 5 -> lies - atHome;
            case 6 -> lying.size() - lies;
            case 7 -> tons;
            case 8 -> lyingTons;
            case 9 -> room();
            case 10 -> now.moved();
            case 11 -> now.berthTons();
            case 12 -> hot;
            case 13 -> text.length();
            case 14 -> before.size();
            default -> BAD;
        };
    }

    private int room() {
        int room = 0;
        for (int p = 0; p < now.piers().size(); p++) {
            room += now.room(p);
        }
        return room;
    }

    double meanStretch() {
        int open = account(1);
        return open == 0 ? 0.0 : 360.0 / open;
    }

    float takenShare() {
        return room() == 0 ? 0.0f : (float) account(8) / (float) room();
    }
}
