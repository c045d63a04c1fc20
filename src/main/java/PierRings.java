import java.util.Arrays;

/** A ring of piers along which barges find their places by their names. */
public final class PierRings {
    public static final int NONE = -11;
    public static final int BAD = -12;
    public static final int FULL = -13;
    public static final int REFUSED = -14;
    public static final int NOTHING = -15;

    private static final int RING = 360;
    private static final int MOST_PIERS = 8;
    private static final int MOST_BERTHS = 5;
    private static final int POINTS_OF_A_BERTH = 2;
    private static final int MOST_POINTS = MOST_PIERS * MOST_BERTHS * POINTS_OF_A_BERTH;
    private static final int MOST_BARGES = 24;
    private static final int MOST_NAME = 9999;
    private static final int MOST_TONS = 99;
    private static final int FIRST_BERTH_TONS = 60;
    private static final int LEAST_BERTH_TONS = 10;
    private static final int MOST_BERTH_TONS = 200;
    private static final int MOST_CHANGES = 8;
    private static final int MOST_TEXT = 60;
    private static final int MOST_LINE = 80;
    private static final int FAULT = -1000;
    private static final int ABSENT = -1;

    private static final int THERE_ARE_ALL = 1;
    private static final int NAME_IS_THERE = 2;
    private static final int IS_SO_ALREADY = 3;
    private static final int ORDER_FAILS = 4;

    private final Harbour harbour;
    private final Circle circle;
    private final Moorings moorings;
    private final Harbour wouldBe;
    private final Circle circleThen;
    private final History history;
    private final Harbour snapshot;
    private final OrderText text;
    private final Line line;
    private boolean hasSnapshot;
    private int latestReason;
    private int latestDetail;

    public PierRings() {
        harbour = new Harbour();
        circle = new Circle();
        moorings = new Moorings();
        wouldBe = new Harbour();
        circleThen = new Circle();
        history = new History();
        snapshot = new Harbour();
        text = new OrderText();
        line = new Line();
        hasSnapshot = false;
        latestReason = NOTHING;
        latestDetail = NOTHING;
    }

    // ---- piers

    public int pier(int berths) {
        history.draft(harbour);
        return keepIfDone(joinPier(berths));
    }

    public int close(int pier) {
        history.draft(harbour);
        return keepIfDone(setOpened(pier, false));
    }

    public int open(int pier) {
        history.draft(harbour);
        return keepIfDone(setOpened(pier, true));
    }

    public int weigh(int pier, int berths) {
        history.draft(harbour);
        return keepIfDone(setBerths(pier, berths));
    }

    public int berth(int tons) {
        history.draft(harbour);
        return keepIfDone(setBerthTons(tons));
    }

    public int pierOf(int pier, int what) {
        if (!harbour.hasPier(pier)) {
            return NONE;
        }
        switch (what) {
            case 0: return harbour.berths[pier];
            case 1: return harbour.opened[pier] ? 1 : 0;
            case 2: return harbour.pointsOf(pier);
            case 3: return circle.stretchOf(pier);
            case 4: return moorings.homeBarges[pier];
            case 5: return moorings.homeTons[pier];
            case 6: return moorings.lyingBarges[pier];
            case 7: return moorings.lyingTons[pier];
            case 8: return harbour.roomOf(pier);
            case 9: return isHot(pier) ? 1 : 0;
            default: return BAD;
        }
    }

    public int neighbours(int pier) {
        return harbour.hasPier(pier) ? circle.neighboursOf(pier) : NONE;
    }

    // ---- barges

    public int barge(int name, int tons) {
        history.draft(harbour);
        return keepIfDone(letCome(name, tons));
    }

    public int leave(int barge) {
        history.draft(harbour);
        return keepIfDone(letGo(barge));
    }

    public int load(int barge, int tons) {
        history.draft(harbour);
        return keepIfDone(setTons(barge, tons));
    }

    public int bargeOf(int barge, int what) {
        if (!harbour.hasBarge(barge)) {
            return NONE;
        }
        switch (what) {
            case 0: return harbour.names[barge];
            case 1: return harbour.tons[barge];
            case 2: return harbour.pointOf(barge);
            case 3: return moorings.liesAt[barge];
            case 4: return moorings.passed[barge];
            default: return BAD;
        }
    }

    public int home(int barge) {
        return harbour.hasBarge(barge) ? circle.homeByTree(harbour.pointOf(barge)) : NONE;
    }

    public int homeAgain(int barge) {
        return harbour.hasBarge(barge) ? circle.homeAlong(harbour.pointOf(barge)) : NONE;
    }

    public int homeOf(int point) {
        return point >= 0 && point < RING ? circle.homeByTree(point) : NONE;
    }

    // ---- the ring, the tree

    public int ring(int place, int what) {
        if (place < 0 || place >= circle.count) {
            return NONE;
        }
        int node = circle.nodeByPlace[place];
        switch (what) {
            case 0: return circle.point[node];
            case 1: return circle.owner[node];
            case 2: return circle.number[node];
            case 3: return circle.above[node];
            default: return BAD;
        }
    }

    public int deep() {
        return circle.height;
    }

    // ---- what would be

    public int wouldMove(int berths) {
        if (berths < 1 || berths > MOST_BERTHS) {
            return BAD;
        }
        if (harbour.piers == MOST_PIERS) {
            return FULL;
        }
        wouldBe.takeFrom(harbour);
        wouldBe.addPier(berths);
        circleThen.build(wouldBe);
        return moorings.homesUnlike(harbour, circleThen);
    }

    public int wouldClose(int pier) {
        if (!harbour.hasPier(pier)) {
            return NONE;
        }
        if (!harbour.opened[pier]) {
            return NOTHING;
        }
        supposeClosed(pier);
        return moorings.homesUnlike(harbour, circleThen);
    }

    public int hottest(int place) {
        for (int pier = 0; pier < harbour.piers; pier++) {
            int ahead = 0;
            for (int other = 0; other < harbour.piers; other++) {
                if (isHotter(other, pier)) {
                    ahead++;
                }
            }
            if (ahead == place) {
                return pier;
            }
        }
        return NONE;
    }

    // ---- texts, lines

    public int append(int code) {
        if (code < 32 || code > 126) {
            return BAD;
        }
        return text.add((char) code) ? text.length : FULL;
    }

    public int run() {
        history.draft(harbour);
        int orders = text.countOrders();
        text.rewind();
        for (int order = 0; order < orders; order++) {
            if (!text.readNext() || carryOut() < 0) {
                text.empty();
                harbour.takeFrom(history.drafted());
                settleAnew();
                return refuse(ORDER_FAILS, order);
            }
        }
        text.empty();
        return keepIfDone(orders);
    }

    public int tell(int pier) {
        if (!harbour.hasPier(pier)) {
            return NONE;
        }
        line.empty();
        line.putNumber(pier);
        line.put('*');
        line.putNumber(harbour.berths[pier]);
        if (!harbour.opened[pier]) {
            line.put('x');
        }
        line.put(':');
        boolean isFirst = true;
        for (int barge = 0; barge < harbour.barges; barge++) {
            if (moorings.liesAt[barge] == pier) {
                if (!isFirst) {
                    line.put(',');
                }
                line.putNumber(barge);
                isFirst = false;
            }
        }
        return line.length;
    }

    public int tellBarge(int barge) {
        if (!harbour.hasBarge(barge)) {
            return NONE;
        }
        line.empty();
        line.putNumber(barge);
        line.put('=');
        line.putNumber(harbour.names[barge]);
        line.put('@');
        line.putNumber(harbour.pointOf(barge));
        line.put('+');
        line.putNumber(harbour.tons[barge]);
        line.put('>');
        if (moorings.liesAt[barge] == NOTHING) {
            line.put('-');
        } else {
            line.putNumber(moorings.liesAt[barge]);
        }
        return line.length;
    }

    public int character(int index) {
        return index >= 0 && index < line.length ? line.signs[index] : NONE;
    }

    // ---- reasons, accounts, undo and the snapshot

    public int reason(boolean isDetail) {
        return isDetail ? latestDetail : latestReason;
    }

    public int account(int what) {
        switch (what) {
            case 0: return harbour.piers;
            case 1: return harbour.openPiers();
            case 2: return circle.count;
            case 3: return harbour.barges;
            case 4: return moorings.atHome;
            case 5: return moorings.elsewhere;
            case 6: return harbour.barges - moorings.atHome - moorings.elsewhere;
            case 7: return harbour.allTons();
            case 8: return moorings.allLyingTons();
            case 9: return harbour.allRoom();
            case 10: return harbour.movedHomes;
            case 11: return harbour.berthTons;
            case 12: return hotPiers();
            case 13: return text.length;
            case 14: return history.kept;
            default: return BAD;
        }
    }

    public int isBalanced() {
        return homesAgree() && stretchesFillTheRing() && nothingExceedsItsRoom() && closingsStayNear() ? 1 : 0;
    }

    public double meanStretch() {
        int open = harbour.openPiers();
        return open == 0 ? 0.0 : (double) RING / (double) open;
    }

    public float takenShare() {
        int room = harbour.allRoom();
        return room == 0 ? 0.0f : (float) moorings.allLyingTons() / (float) room;
    }

    public int undo() {
        if (history.kept == 0) {
            return NOTHING;
        }
        history.takeBackInto(harbour);
        settleAnew();
        return history.kept;
    }

    public int save() {
        snapshot.takeFrom(harbour);
        hasSnapshot = true;
        return harbour.barges;
    }

    public int restore() {
        if (!hasSnapshot) {
            return NOTHING;
        }
        harbour.takeFrom(snapshot);
        history.forgetAll();
        settleAnew();
        return harbour.barges;
    }

    // ---- the changes, as calls and as orders alike

    private int joinPier(int berths) {
        if (berths < 1 || berths > MOST_BERTHS) {
            return BAD;
        }
        if (harbour.piers == MOST_PIERS) {
            return refuse(THERE_ARE_ALL, MOST_PIERS);
        }
        harbour.addPier(berths);
        moveHomes();
        return harbour.piers - 1;
    }

    private int setOpened(int pier, boolean isOpened) {
        if (!harbour.hasPier(pier)) {
            return NONE;
        }
        if (harbour.opened[pier] == isOpened) {
            return refuse(IS_SO_ALREADY, pier);
        }
        harbour.opened[pier] = isOpened;
        return moveHomes();
    }

    private int setBerths(int pier, int berths) {
        if (!harbour.hasPier(pier)) {
            return NONE;
        }
        if (berths < 1 || berths > MOST_BERTHS) {
            return BAD;
        }
        if (harbour.berths[pier] == berths) {
            return refuse(IS_SO_ALREADY, berths);
        }
        harbour.berths[pier] = berths;
        return moveHomes();
    }

    private int setBerthTons(int tons) {
        if (tons < LEAST_BERTH_TONS || tons > MOST_BERTH_TONS) {
            return BAD;
        }
        int before = harbour.berthTons;
        if (before == tons) {
            return refuse(IS_SO_ALREADY, tons);
        }
        harbour.berthTons = tons;
        moorings.settle(harbour, circle);
        return before;
    }

    private int letCome(int name, int tons) {
        if (name < 0 || name > MOST_NAME || tons < 1 || tons > MOST_TONS) {
            return BAD;
        }
        int namesake = harbour.bargeNamed(name);
        if (namesake != ABSENT) {
            return refuse(NAME_IS_THERE, namesake);
        }
        if (harbour.barges == MOST_BARGES) {
            return refuse(THERE_ARE_ALL, MOST_BARGES);
        }
        harbour.addBarge(name, tons);
        moorings.settle(harbour, circle);
        return harbour.barges - 1;
    }

    private int letGo(int barge) {
        if (!harbour.hasBarge(barge)) {
            return NONE;
        }
        harbour.removeBarge(barge);
        moorings.settle(harbour, circle);
        return harbour.barges;
    }

    private int setTons(int barge, int tons) {
        if (!harbour.hasBarge(barge)) {
            return NONE;
        }
        if (tons < 1 || tons > MOST_TONS) {
            return BAD;
        }
        int before = harbour.tons[barge];
        if (before == tons) {
            return refuse(IS_SO_ALREADY, tons);
        }
        harbour.tons[barge] = tons;
        moorings.settle(harbour, circle);
        return before;
    }

    private int refuse(int why, int detail) {
        latestReason = why;
        latestDetail = detail;
        return REFUSED;
    }

    /** Every code is below 0, and no answer of a successful change is. */
    private int keepIfDone(int answer) {
        if (answer >= 0) {
            history.keepDraft();
        }
        return answer;
    }

    /** The moorings still hold the homes from before, so those are compared ahead of settling. */
    private int moveHomes() {
        circle.build(harbour);
        int moved = moorings.homesUnlike(harbour, circle);
        harbour.movedHomes += moved;
        moorings.settle(harbour, circle);
        return moved;
    }

    private void settleAnew() {
        circle.build(harbour);
        moorings.settle(harbour, circle);
    }

    private int carryOut() {
        switch (text.kind) {
            case OrderText.PIER: return joinPier(text.first);
            case OrderText.CLOSE: return setOpened(text.first, false);
            case OrderText.OPEN: return setOpened(text.first, true);
            case OrderText.WEIGH: return setBerths(text.first, text.second);
            case OrderText.BARGE: return letCome(text.first, text.second);
            case OrderText.GONE: return letGo(text.first);
            case OrderText.LOAD: return setTons(text.first, text.second);
            default: return setBerthTons(text.first);
        }
    }

    // ---- what is looked at across the parts

    private void supposeClosed(int pier) {
        wouldBe.takeFrom(harbour);
        wouldBe.opened[pier] = false;
        circleThen.build(wouldBe);
    }

    private boolean isHot(int pier) {
        return tonsBeyond(pier) > 0;
    }

    private int hotPiers() {
        int hot = 0;
        for (int pier = 0; pier < harbour.piers; pier++) {
            if (isHot(pier)) {
                hot++;
            }
        }
        return hot;
    }

    private int tonsBeyond(int pier) {
        return moorings.homeTons[pier] - harbour.roomOf(pier);
    }

    private boolean isHotter(int pier, int other) {
        if (tonsBeyond(pier) != tonsBeyond(other)) {
            return tonsBeyond(pier) > tonsBeyond(other);
        }
        if (harbour.berths[pier] != harbour.berths[other]) {
            return harbour.berths[pier] < harbour.berths[other];
        }
        return pier < other;
    }

    private boolean homesAgree() {
        for (int barge = 0; barge < harbour.barges; barge++) {
            int point = harbour.pointOf(barge);
            if (circle.homeByTree(point) != circle.homeAlong(point)) {
                return false;
            }
        }
        return true;
    }

    private boolean stretchesFillTheRing() {
        int all = 0;
        for (int pier = 0; pier < harbour.piers; pier++) {
            all += circle.stretchOf(pier);
        }
        return all == RING || harbour.openPiers() == 0;
    }

    private boolean nothingExceedsItsRoom() {
        for (int pier = 0; pier < harbour.piers; pier++) {
            if (moorings.lyingTons[pier] > harbour.roomOf(pier)) {
                return false;
            }
        }
        return true;
    }

    private boolean closingsStayNear() {
        for (int pier = 0; pier < harbour.piers; pier++) {
            if (harbour.opened[pier] && !closingStaysNear(pier)) {
                return false;
            }
        }
        return true;
    }

    /** A home that ends with the last open pier moves to no other pier, so it breaks nothing. */
    private boolean closingStaysNear(int pier) {
        int near = circle.neighboursOf(pier);
        supposeClosed(pier);
        for (int barge = 0; barge < harbour.barges; barge++) {
            int before = moorings.homes[barge];
            int then = circleThen.homeByTree(harbour.pointOf(barge));
            if (then != before) {
                boolean isNear = then == NOTHING || (near >> then & 1) == 1;
                if (before != pier || !isNear) {
                    return false;
                }
            }
        }
        return true;
    }

    /** All that changes can change, and nothing that can be told from it. */
    private static final class Harbour {
        final int[] berths = new int[MOST_PIERS];
        final boolean[] opened = new boolean[MOST_PIERS];
        final int[] names = new int[MOST_BARGES];
        final int[] tons = new int[MOST_BARGES];
        int piers = 0;
        int barges = 0;
        int berthTons = FIRST_BERTH_TONS;
        int movedHomes = 0;

        void takeFrom(Harbour other) {
            System.arraycopy(other.berths, 0, berths, 0, MOST_PIERS);
            System.arraycopy(other.opened, 0, opened, 0, MOST_PIERS);
            System.arraycopy(other.names, 0, names, 0, MOST_BARGES);
            System.arraycopy(other.tons, 0, tons, 0, MOST_BARGES);
            piers = other.piers;
            barges = other.barges;
            berthTons = other.berthTons;
            movedHomes = other.movedHomes;
        }

        boolean hasPier(int pier) {
            return pier >= 0 && pier < piers;
        }

        boolean hasBarge(int barge) {
            return barge >= 0 && barge < barges;
        }

        void addPier(int itsBerths) {
            if (piers < MOST_PIERS) {
                berths[piers] = itsBerths;
                opened[piers] = true;
                piers++;
            }
        }

        void addBarge(int name, int itsTons) {
            if (barges < MOST_BARGES) {
                names[barges] = name;
                tons[barges] = itsTons;
                barges++;
            }
        }

        void removeBarge(int barge) {
            if (hasBarge(barge)) {
                int later = barges - barge - 1;
                System.arraycopy(names, barge + 1, names, barge, later);
                System.arraycopy(tons, barge + 1, tons, barge, later);
                barges--;
            }
        }

        int bargeNamed(int name) {
            for (int barge = 0; barge < barges; barge++) {
                if (names[barge] == name) {
                    return barge;
                }
            }
            return ABSENT;
        }

        int pointOf(int barge) {
            return (37 * names[barge] + 11) % RING;
        }

        int pointsOf(int pier) {
            return opened[pier] ? berths[pier] * POINTS_OF_A_BERTH : 0;
        }

        int roomOf(int pier) {
            return opened[pier] ? berths[pier] * berthTons : 0;
        }

        int allRoom() {
            int room = 0;
            for (int pier = 0; pier < piers; pier++) {
                room += roomOf(pier);
            }
            return room;
        }

        int openPiers() {
            int open = 0;
            for (int pier = 0; pier < piers; pier++) {
                if (opened[pier]) {
                    open++;
                }
            }
            return open;
        }

        int allTons() {
            int all = 0;
            for (int barge = 0; barge < barges; barge++) {
                all += tons[barge];
            }
            return all;
        }
    }

    /** The points of the open piers, as nodes of the tree and in their places on the ring. */
    private static final class Circle {
        private static final int TOP = 0;

        final int[] nodeByPlace = new int[MOST_POINTS];
        final int[] point = new int[MOST_POINTS];
        final int[] owner = new int[MOST_POINTS];
        final int[] number = new int[MOST_POINTS];
        final int[] above = new int[MOST_POINTS];
        int count = 0;
        int height = 0;
        private final int[] nodeAt = new int[RING];
        private final int[] left = new int[MOST_POINTS];
        private final int[] right = new int[MOST_POINTS];

        Circle() {
            Arrays.fill(nodeAt, ABSENT);
        }

        void build(Harbour harbour) {
            Arrays.fill(nodeAt, ABSENT);
            count = 0;
            height = 0;
            for (int pier = 0; pier < harbour.piers; pier++) {
                int points = harbour.pointsOf(pier);
                for (int j = 0; j < points && count < MOST_POINTS; j++) {
                    point[count] = 8 * ((17 * pier + 7 * j) % 45) + pier;
                    owner[count] = pier;
                    number[count] = j;
                    nodeAt[point[count]] = count;
                    hang(count);
                    count++;
                }
            }
            placeNodes();
        }

        private void hang(int node) {
            left[node] = ABSENT;
            right[node] = ABSENT;
            int upper = ABSENT;
            int next = node == TOP ? ABSENT : TOP;
            int depth = 0;
            while (next != ABSENT && depth < MOST_POINTS) {
                upper = next;
                next = point[node] < point[upper] ? left[upper] : right[upper];
                depth++;
            }
            if (upper != ABSENT) {
                if (point[node] < point[upper]) {
                    left[upper] = node;
                } else {
                    right[upper] = node;
                }
            }
            above[node] = depth;
            height = Math.max(height, depth + 1);
        }

        private void placeNodes() {
            int place = 0;
            for (int at = 0; at < RING && place < count; at++) {
                if (nodeAt[at] != ABSENT) {
                    nodeByPlace[place] = nodeAt[at];
                    place++;
                }
            }
        }

        int homeByTree(int from) {
            int next = firstInTree(from);
            if (next == ABSENT) {
                next = firstInTree(0);
            }
            return next == ABSENT ? NOTHING : owner[next];
        }

        /** The node of the lowest point that is not below the given one, if there is one. */
        private int firstInTree(int from) {
            int first = ABSENT;
            int node = count == 0 ? ABSENT : TOP;
            for (int steps = 0; steps < count && node != ABSENT; steps++) {
                if (point[node] >= from) {
                    first = node;
                    node = left[node];
                } else {
                    node = right[node];
                }
            }
            return first;
        }

        int homeAlong(int from) {
            for (int steps = 0; steps < RING; steps++) {
                int node = nodeAt[(from + steps) % RING];
                if (node != ABSENT) {
                    return owner[node];
                }
            }
            return NOTHING;
        }

        /** The place of the first point at a point of the ring or behind it. */
        int placeFrom(int from) {
            for (int place = 0; place < count; place++) {
                if (point[nodeByPlace[place]] >= from) {
                    return place;
                }
            }
            return 0;
        }

        int stretchOf(int pier) {
            int stretch = 0;
            for (int place = 0; place < count; place++) {
                int node = nodeByPlace[place];
                if (owner[node] == pier) {
                    int before = nodeByPlace[place == 0 ? count - 1 : place - 1];
                    stretch += Math.floorMod(point[node] - point[before], RING);
                }
            }
            return stretch;
        }

        int neighboursOf(int pier) {
            int set = 0;
            for (int place = 0; place < count; place++) {
                if (owner[nodeByPlace[place]] == pier) {
                    int other = ownerBehind(place, pier);
                    set |= other == ABSENT ? 0 : 1 << other;
                }
            }
            return set;
        }

        private int ownerBehind(int place, int pier) {
            for (int steps = 1; steps < count; steps++) {
                int other = owner[nodeByPlace[(place + steps) % count]];
                if (other != pier) {
                    return other;
                }
            }
            return ABSENT;
        }
    }

    /** The homes of the barges, where they lie, and what of it is counted by piers. */
    private static final class Moorings {
        final int[] homes = new int[MOST_BARGES];
        final int[] liesAt = new int[MOST_BARGES];
        final int[] passed = new int[MOST_BARGES];
        final int[] homeBarges = new int[MOST_PIERS];
        final int[] homeTons = new int[MOST_PIERS];
        final int[] lyingBarges = new int[MOST_PIERS];
        final int[] lyingTons = new int[MOST_PIERS];
        int atHome = 0;
        int elsewhere = 0;

        void settle(Harbour harbour, Circle circle) {
            Arrays.fill(homeBarges, 0);
            Arrays.fill(homeTons, 0);
            Arrays.fill(lyingBarges, 0);
            Arrays.fill(lyingTons, 0);
            atHome = 0;
            elsewhere = 0;
            for (int barge = 0; barge < harbour.barges; barge++) {
                settleHome(barge, circle.homeByTree(harbour.pointOf(barge)), harbour.tons[barge]);
                findRoom(barge, harbour, circle);
                if (liesAt[barge] != NOTHING) {
                    settleWhereItLies(barge, harbour.tons[barge]);
                }
            }
        }

        private void settleHome(int barge, int home, int tons) {
            homes[barge] = home;
            if (home != NOTHING) {
                homeBarges[home]++;
                homeTons[home] += tons;
            }
        }

        private void findRoom(int barge, Harbour harbour, Circle circle) {
            int start = circle.placeFrom(harbour.pointOf(barge));
            liesAt[barge] = NOTHING;
            passed[barge] = circle.count;
            for (int steps = 0; steps < circle.count; steps++) {
                int pier = circle.owner[circle.nodeByPlace[(start + steps) % circle.count]];
                if (lyingTons[pier] + harbour.tons[barge] <= harbour.roomOf(pier)) {
                    liesAt[barge] = pier;
                    passed[barge] = steps;
                    return;
                }
            }
        }

        private void settleWhereItLies(int barge, int tons) {
            int pier = liesAt[barge];
            lyingBarges[pier]++;
            lyingTons[pier] += tons;
            if (pier == homes[barge]) {
                atHome++;
            } else {
                elsewhere++;
            }
        }

        /** How many of the homes kept here are others by this circle. */
        int homesUnlike(Harbour harbour, Circle circle) {
            int unlike = 0;
            for (int barge = 0; barge < harbour.barges; barge++) {
                if (circle.homeByTree(harbour.pointOf(barge)) != homes[barge]) {
                    unlike++;
                }
            }
            return unlike;
        }

        int allLyingTons() {
            int all = 0;
            for (int pier = 0; pier < MOST_PIERS; pier++) {
                all += lyingTons[pier];
            }
            return all;
        }
    }

    /** What was before the latest changes; one row more than these, for the change that is tried. */
    private static final class History {
        private static final int ROWS = MOST_CHANGES + 1;

        int kept = 0;
        private final Harbour[] rows = new Harbour[ROWS];
        private int next = 0;

        History() {
            for (int row = 0; row < ROWS; row++) {
                rows[row] = new Harbour();
            }
        }

        void forgetAll() {
            kept = 0;
        }

        void draft(Harbour harbour) {
            rows[next].takeFrom(harbour);
        }

        Harbour drafted() {
            return rows[next];
        }

        void keepDraft() {
            next = (next + 1) % ROWS;
            kept = Math.min(kept + 1, MOST_CHANGES);
        }

        void takeBackInto(Harbour harbour) {
            if (kept > 0) {
                kept--;
                next = (next + ROWS - 1) % ROWS;
                harbour.takeFrom(rows[next]);
            }
        }
    }

    /** The text, and the order in it that was read last. */
    private static final class OrderText {
        static final int PIER = 0;
        static final int CLOSE = 1;
        static final int OPEN = 2;
        static final int WEIGH = 3;
        static final int BARGE = 4;
        static final int GONE = 5;
        static final int LOAD = 6;
        static final int BERTH = 7;

        private static final int[] DIGITS_OF_FIRST = {1, 1, 1, 1, 4, 2, 2, 3};
        private static final int[] DIGITS_OF_SECOND = {0, 0, 0, 1, 2, 0, 2, 0};

        int length = 0;
        int kind = PIER;
        int first = 0;
        int second = 0;
        private final char[] signs = new char[MOST_TEXT];
        private int position = 0;

        boolean add(char sign) {
            if (length >= MOST_TEXT) {
                return false;
            }
            signs[length] = sign;
            length++;
            return true;
        }

        void empty() {
            length = 0;
        }

        void rewind() {
            position = 0;
        }

        /** How many orders the whole text has, or what tells its fault position. */
        int countOrders() {
            rewind();
            for (int orders = 1; orders <= MOST_TEXT; orders++) {
                if (!readNext()) {
                    return FAULT - position;
                }
                if (position == length) {
                    return orders;
                }
            }
            return FAULT - position;
        }

        /** Where it fails, the position stays at the fault. */
        boolean readNext() {
            if (position > 0 && !readSign(';')) {
                return false;
            }
            if (!readWord()) {
                return false;
            }
            first = readNumber(DIGITS_OF_FIRST[kind]);
            if (first < 0) {
                return false;
            }
            if (DIGITS_OF_SECOND[kind] == 0) {
                return true;
            }
            if (!readSign(' ')) {
                return false;
            }
            second = readNumber(DIGITS_OF_SECOND[kind]);
            return second >= 0;
        }

        private boolean readSign(char sign) {
            if (position < length && signs[position] == sign) {
                position++;
                return true;
            }
            return false;
        }

        /** No word begins with another one, so that the first one that is there whole is the only one. */
        private boolean readWord() {
            int longest = 0;
            for (int word = PIER; word <= BERTH; word++) {
                int same = lettersThatAre(wordOf(word));
                if (same == wordOf(word).length()) {
                    kind = word;
                    position += same;
                    return true;
                }
                longest = Math.max(longest, same);
            }
            position += longest;
            return false;
        }

        private int lettersThatAre(String word) {
            int same = 0;
            while (same < word.length() && position + same < length && signs[position + same] == word.charAt(same)) {
                same++;
            }
            return same;
        }

        private int readNumber(int mostDigits) {
            int digits = 0;
            int number = 0;
            while (digits < mostDigits && position < length && isDigit(signs[position])) {
                number = 10 * number + signs[position] - '0';
                position++;
                digits++;
            }
            return digits == 0 ? ABSENT : number;
        }

        private static boolean isDigit(char sign) {
            return sign >= '0' && sign <= '9';
        }

        private static String wordOf(int kind) {
            switch (kind) {
                case PIER: return "pier ";
                case CLOSE: return "close ";
                case OPEN: return "open ";
                case WEIGH: return "weigh ";
                case BARGE: return "barge ";
                case GONE: return "gone ";
                case LOAD: return "load ";
                default: return "berth ";
            }
        }
    }

    /** The line that was written last. */
    private static final class Line {
        final char[] signs = new char[MOST_LINE];
        int length = 0;

        void empty() {
            length = 0;
        }

        void put(char sign) {
            if (length < MOST_LINE) {
                signs[length] = sign;
                length++;
            }
        }

        /** Numbers of the line are from 0 to 9999. */
        void putNumber(int number) {
            boolean hasBegun = false;
            for (int unit = 1000; unit > 0; unit /= 10) {
                int digit = number / unit % 10;
                hasBegun = hasBegun || digit != 0 || unit == 1;
                if (hasBegun) {
                    put((char) ('0' + digit));
                }
            }
        }
    }
}
