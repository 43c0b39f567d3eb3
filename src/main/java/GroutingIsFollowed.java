import java.util.Arrays;

/** A wall of baths: nodes of kinds, wet or dry, and people who follow the grouting between them. */
public final class GroutingIsFollowed {
    private static final int NODES = 30;
    private static final int COLUMNS = 6;
    private static final int ROWS = 5;
    private static final int WAYS = 4;
    private static final int PEOPLE = 4;

    private static final int KINDS = 6;
    private static final int LEFT = 1;
    private static final int RIGHT = 2;
    private static final int CHOICE = 3;
    private static final int BEND = 4;
    private static final int YES = 5;

    private static final int MOST_FIGURE = 9;
    private static final int MOST_WET = 9;
    private static final int MOST_HELPED = 99;
    private static final int MOST_STEP = 999;
    private static final int MOST_STEPS = 60;
    private static final int MOST_STEPS_OF_CHOICES = 30;
    private static final int MOST_STEPS_IN_STEAM = 7;
    private static final int MOST_ODDS = 20;
    private static final int MOST_LETTERS = 96;
    private static final int MOST_LETTER = 255;
    private static final int MOST_IN_ROW = 16;
    private static final int MOST_NUMBER = 99;
    private static final int MOST_BATHS = 20;
    private static final int STEPS_OF_A_BATH = 12;

    private static final int NOBODY = -1;
    private static final int OTHER = -2;
    private static final int STATE = -3;
    private static final int BELOW = -4;
    private static final int ROOM = -6;
    private static final int NONE = -9;
    private static final int REFUSALS = 6;
    private static final long LONG_REFUSAL = 4000000000000000000L;

    private static final int FAULT_OF_LETTERS = -1000;
    private static final int FAULT_OF_STATEMENTS = -2000;
    private static final String KIND_LETTERS = "slrcby";
    private static final int NOBODY_STANDS = 0;
    private static final int ALL_STAND = 15;
    private static final int UNREACHED = 1000;
    private static final int WITHOUT_SIGN = 0x7fffffff;

    private final Bath now = new Bath();
    private final Bath mind = new Bath();
    private final Bath taken = new Bath();
    private boolean isTaken;
    private final int[] letters = new int[MOST_LETTERS];
    private int letterCount;
    private final int[] told = new int[MOST_IN_ROW];
    private int toldCount;
    private final int[] refusals = new int[REFUSALS];
    private final int[] costs = new int[NODES];
    private final int[] gains = new int[8];
    private int seed;

    public GroutingIsFollowed() {
    }

    public int letter(int c) {
        if (c < 0) return refuse(BELOW);
        if (c > MOST_LETTER || letterCount >= MOST_LETTERS) return refuse(ROOM);
        if (letterCount >= 0 && letterCount < letters.length) letters[letterCount] = c;
        letterCount++;
        return letterCount;
    }

    public int wall() {
        int place = placeAmiss();
        int answer = place >= 0 ? FAULT_OF_LETTERS - place : tellAll();
        letterCount = 0;
        return answer;
    }

    public int node(int node, int what) {
        if (!isNode(node)) return refuse(NOBODY);
        if (what == 0) return now.kindOf(node);
        if (what == 1) return now.figureOf(node);
        if (what == 2) return now.wetOf(node);
        return refuse(OTHER);
    }

    public int person(int person, int what) {
        if (!now.has(person)) return refuse(NOBODY);
        if (what < 0 || what > 3) return refuse(OTHER);
        return what == 3 ? now.wayNext(person) : now.ofPerson(person, what);
    }

    public int lays(int node, int kind, int figure) {
        if (!isNode(node)) return refuse(NOBODY);
        if (!isKind(kind)) return refuse(OTHER);
        int amiss = outside(figure, 0, MOST_FIGURE);
        if (amiss != 0) return refuse(amiss);
        int had = 10 * now.kindOf(node) + now.figureOf(node);
        now.putKind(node, kind);
        now.putFigure(node, figure);
        return had;
    }

    public int wets(int node, int v) {
        if (!isNode(node)) return refuse(NOBODY);
        int amiss = outside(v, 0, MOST_WET);
        if (amiss != 0) return refuse(amiss);
        int had = now.wetOf(node);
        now.putWet(node, v);
        return had;
    }

    public int comesIn(int node, int way) {
        if (!isNode(node) || !isWay(way)) return refuse(NOBODY);
        if (now.isFull()) return refuse(ROOM);
        return now.add(node, way);
    }

    public int heads(int person, int way) {
        if (!now.has(person) || !isWay(way)) return refuse(NOBODY);
        int had = now.headingOf(person);
        now.putHeading(person, way);
        return had;
    }

    public int stands(int person, int node) {
        if (!now.has(person) || !isNode(node)) return refuse(NOBODY);
        int had = now.placeOf(person);
        now.putPlace(person, node);
        return had;
    }

    public int steps(int n) {
        int amiss = outside(n, 1, MOST_STEPS);
        if (amiss != 0) return refuse(amiss);
        if (now.stepCount() + n > MOST_STEP) return refuse(ROOM);
        now.goOn(n, NOBODY_STANDS);
        return now.allWet();
    }

    public int personThen(int person, int n, int what) {
        if (!now.has(person)) return refuse(NOBODY);
        int amiss = outside(n, 0, MOST_STEPS);
        if (amiss != 0) return refuse(amiss);
        if (what < 0 || what > 2) return refuse(OTHER);
        mind.becomes(now);
        mind.goOn(n, NOBODY_STANDS);
        return mind.ofPerson(person, what);
    }

    public int wetThen(int node, int n) {
        if (!isNode(node)) return refuse(NOBODY);
        int amiss = outside(n, 0, MOST_STEPS);
        if (amiss != 0) return refuse(amiss);
        mind.becomes(now);
        mind.goOn(n, NOBODY_STANDS);
        return mind.wetOf(node);
    }

    public int comes(int person, int node) {
        if (!now.has(person) || !isNode(node)) return refuse(NOBODY);
        mind.becomes(now);
        return mind.soonestAt(person, node);
    }

    public int visits(int person, int n) {
        if (!now.has(person)) return refuse(NOBODY);
        int amiss = outside(n, 0, MOST_STEPS);
        if (amiss != 0) return refuse(amiss);
        mind.becomes(now);
        return mind.visitsIn(person, n);
    }

    public int stops(int person) {
        if (!now.has(person)) return refuse(NOBODY);
        mind.becomes(now);
        for (int n = 0; n <= MOST_STEPS; n++) {
            if (mind.wetOf(mind.placeOf(person)) == 0) return n;
            mind.goOn(1, NOBODY_STANDS);
        }
        return NONE;
    }

    public int meets(int one, int other) {
        if (!areTwo(one, other)) return refuse(NOBODY);
        mind.becomes(now);
        for (int n = 0; n <= MOST_STEPS; n++) {
            if (mind.placeOf(one) == mind.placeOf(other)) return n;
            mind.goOn(1, NOBODY_STANDS);
        }
        return NONE;
    }

    public int round(int person) {
        if (!now.has(person)) return refuse(NOBODY);
        mind.becomes(now);
        for (int n = 1; n <= MOST_STEPS; n++) {
            mind.goOn(1, NOBODY_STANDS);
            boolean there = mind.placeOf(person) == now.placeOf(person);
            if (there && mind.headingOf(person) == now.headingOf(person)) return n;
        }
        return NONE;
    }

    public int way(int node, int other, int what) {
        if (!isNode(node) || !isNode(other)) return refuse(NOBODY);
        if (what < 0 || what > 1) return refuse(OTHER);
        int cost = what == 0 ? leastCost(node, other, 1, UNREACHED) : leastCost(node, other, 0, 1);
        return cost < UNREACHED ? cost : NONE;
    }

    public int begin(int person, int n, int what) {
        if (!now.has(person)) return refuse(NOBODY);
        int amiss = outside(n, 0, MOST_STEPS_OF_CHOICES);
        if (amiss != 0) return refuse(amiss);
        if (what < 0 || what > 1) return refuse(OTHER);
        int best = 0;
        int most = 0;
        for (int node = 0; node < NODES; node++) {
            mind.becomes(now);
            mind.putPlace(person, node);
            int seen = mind.visitsIn(person, n);
            if (seen > most) {
                best = node;
                most = seen;
            }
        }
        return what == 0 ? best : most;
    }

    public int head(int person, int node) {
        if (!now.has(person) || !isNode(node)) return refuse(NOBODY);
        int best = NONE;
        int soonest = MOST_STEPS + 1;
        for (int way = 0; way < WAYS; way++) {
            mind.becomes(now);
            mind.putHeading(person, way);
            int behind = mind.soonestAt(person, node);
            if (behind >= 0 && behind < soonest) {
                best = way;
                soonest = behind;
            }
        }
        return best;
    }

    public int damp(int person, int n) {
        if (!now.has(person)) return refuse(NOBODY);
        int amiss = outside(n, 0, MOST_STEPS_OF_CHOICES);
        if (amiss != 0) return refuse(amiss);
        mind.becomes(now);
        int most = mind.visitsIn(person, n);
        int best = NONE;
        for (int node = 0; node < NODES; node++) {
            mind.becomes(now);
            mind.putWet(node, MOST_WET);
            int seen = mind.visitsIn(person, n);
            if (seen > most) {
                best = node;
                most = seen;
            }
        }
        return best;
    }

    public int bestKind(int node, int person, int n) {
        if (!isNode(node) || !now.has(person)) return refuse(NOBODY);
        int amiss = outside(n, 0, MOST_STEPS_OF_CHOICES);
        if (amiss != 0) return refuse(amiss);
        int best = 0;
        int most = 0;
        for (int kind = 0; kind < KINDS; kind++) {
            mind.becomes(now);
            mind.putKind(node, kind);
            int seen = mind.visitsIn(person, n);
            if (seen > most) {
                best = kind;
                most = seen;
            }
        }
        return best;
    }

    public int dry(int what) {
        switch (what) {
            case 0: return Integer.bitCount(now.dryNodes());
            case 1: return now.wettest();
            case 2: return now.allWet();
            case 3: return now.mostHelped();
            case 4: return now.together();
            case 5: return now.atEdges();
            case 6: return now.wettestRow();
            default: return refuse(OTHER);
        }
    }

    public int kinds(int kind) {
        if (!isKind(kind)) return refuse(OTHER);
        int many = 0;
        for (int node = 0; node < NODES; node++) {
            if (now.kindOf(node) == kind) many++;
        }
        return many;
    }

    public int near(int node) {
        if (!isNode(node)) return refuse(NOBODY);
        return now.nearest(node);
    }

    public int two(int a, int b, int n) {
        if (!areTwo(a, b)) return refuse(NOBODY);
        int amiss = outside(n, 0, MOST_STEPS_OF_CHOICES);
        if (amiss != 0) return refuse(amiss);
        for (int pair = 0; pair < 4; pair++) reckonGains(pair, a, b, n);
        for (int pair = 0; pair < 4; pair++) {
            boolean firstStays = gainOf(pair, 0) >= gainOf(pair ^ 2, 0);
            boolean otherStays = gainOf(pair, 1) >= gainOf(pair ^ 1, 1);
            if (firstStays && otherStays) return 10 * (pair >> 1) + (pair & 1);
        }
        return NONE;
    }

    public long steam(int person, int node, int n, int t, int part) {
        if (!now.has(person) || !isNode(node)) return refuseLong(NOBODY);
        if (n < 0 || t < 2) return refuseLong(BELOW);
        if (n > MOST_STEPS_IN_STEAM || t > MOST_ODDS) return refuseLong(ROOM);
        if (part < 0 || part > 1) return refuseLong(OTHER);
        long there = 0;
        for (int steamy = 0; steamy < 1 << n; steamy++) {
            long weight = weightInSteam(n, t, steamy);
            if (mind.placeOf(person) == node) there += weight;
        }
        long all = 1;
        for (int i = 0; i < n; i++) all *= t;
        return partOf(there, all, part);
    }

    public long mean(int part) {
        if (part < 0 || part > 1) return refuseLong(OTHER);
        return partOf(now.allWet(), NODES, part);
    }

    public int whatIs(int node, int person, int what) {
        if (!isNode(node) || !now.has(person)) return refuse(NOBODY);
        if (what < 0 || what > 1) return refuse(OTHER);
        int bits = 0;
        int most = what == 0 ? KINDS - 1 : MOST_FIGURE;
        for (int guess = 0; guess <= most; guess++) {
            mind.becomes(now);
            if (what == 0) mind.putKind(node, guess);
            else mind.putFigure(node, guess);
            if (isAsTold(person)) bits |= 1 << guess;
        }
        return bits;
    }

    public int row(int v) {
        if (v < 0) return refuse(BELOW);
        if (v > MOST_NUMBER || toldCount >= MOST_IN_ROW) return refuse(ROOM);
        if (toldCount >= 0 && toldCount < told.length) told[toldCount] = v;
        toldCount++;
        return toldCount;
    }

    public int judge() {
        int first = NONE;
        for (int i = 0; i < toldCount && first == NONE; i++) {
            if (toldAt(i) != now.wetOf(i)) first = i;
        }
        toldCount = 0;
        return first;
    }

    public int clear() {
        int had = toldCount;
        toldCount = 0;
        return had;
    }

    public int lots(int n, int z, int what) {
        int amiss = outside(n, 1, MOST_BATHS);
        if (amiss != 0) return refuse(amiss);
        if (what < 0 || what > 1) return refuse(OTHER);
        seed = z;
        int answer = 0;
        for (int bath = 0; bath < n; bath++) {
            mind.becomes(now);
            drawPeople();
            mind.goOn(STEPS_OF_A_BATH, NOBODY_STANDS);
            answer += what == 0 ? mind.allHelped() - now.allHelped() : mind.stuckPeople();
        }
        return answer;
    }

    public int image() {
        taken.becomes(now);
        isTaken = true;
        return now.stepCount();
    }

    public int on() {
        if (!isTaken) return refuse(STATE);
        now.becomes(taken);
        return now.stepCount();
    }

    public int count(int what) {
        switch (what) {
            case 0: return now.peopleCount();
            case 1: return now.stepCount();
            case 2: return now.allWet();
            case 3: return now.allHelped();
            case 4: return now.dryNodes();
            case 5: return now.allFigures();
            case 6: return toldCount;
            case 7: return letterCount;
            default: return refusalsOf(what - 11);
        }
    }

    // ---- refusals ----

    private int refuse(int number) {
        int i = -number - 1;
        if (i >= 0 && i < refusals.length) refusals[i]++;
        return number;
    }

    private long refuseLong(int number) {
        return LONG_REFUSAL - refuse(number);
    }

    private int refusalsOf(int i) {
        return i >= 0 && i < refusals.length ? refusals[i] : NONE;
    }

    private static int outside(int v, int least, int greatest) {
        if (v < least) return BELOW;
        return v > greatest ? ROOM : 0;
    }

    private boolean areTwo(int one, int other) {
        return now.has(one) && now.has(other) && one != other;
    }

    private static boolean isNode(int node) {
        return node >= 0 && node < NODES;
    }

    private static boolean isWay(int way) {
        return way >= 0 && way < WAYS;
    }

    private static boolean isKind(int kind) {
        return kind >= 0 && kind < KINDS;
    }

    // ---- the wall's letters ----

    private int letterAt(int place) {
        return place >= 0 && place < letterCount && place < letters.length ? letters[place] : -1;
    }

    /** What must stand behind a statement's first letter: d a digit, k a letter of a kind; "" no such statement. */
    private static String formBehind(int c) {
        switch (c) {
            case 'n': return "ddkd;";
            case 'w':
            case 'p':
            case 'a': return "ddd;";
            case 'h':
            case 's': return "dd;";
            default: return "";
        }
    }

    private static boolean fits(int c, char asked) {
        if (asked == 'd') return c >= '0' && c <= '9';
        if (asked == 'k') return kindBy(c) >= 0;
        return c == asked;
    }

    private static int kindBy(int c) {
        return c < 0 ? -1 : KIND_LETTERS.indexOf((char) c);
    }

    /** The place of the first letter with which no wall can go on; -1 if there is none. */
    private int placeAmiss() {
        if (letterCount == 0) return 0;
        int place = 0;
        while (place < letterCount) {
            String form = formBehind(letterAt(place));
            if (form.isEmpty()) return place;
            place++;
            for (int i = 0; i < form.length(); i++) {
                if (!fits(letterAt(place), form.charAt(i))) return place;
                place++;
            }
        }
        return -1;
    }

    /** Goes through the statements in mind, so that with a fault nothing of them has come. */
    private int tellAll() {
        mind.becomes(now);
        int many = 0;
        int place = 0;
        while (place < letterCount) {
            if (!tellOne(place)) return FAULT_OF_STATEMENTS - place;
            many++;
            place += 1 + formBehind(letterAt(place)).length();
        }
        now.becomes(mind);
        return many;
    }

    private boolean tellOne(int place) {
        switch (letterAt(place)) {
            case 'n': return tellNode(number(place + 1), kindBy(letterAt(place + 3)), digit(place + 4));
            case 'w': return tellWet(number(place + 1), digit(place + 3));
            case 'p': return tellComing(number(place + 1), digit(place + 3));
            case 'h': return tellHeading(digit(place + 1), digit(place + 2));
            case 'a': return tellPlace(digit(place + 1), number(place + 2));
            default: return tellSteps(number(place + 1));
        }
    }

    private int digit(int place) {
        return letterAt(place) - '0';
    }

    private int number(int place) {
        return 10 * digit(place) + digit(place + 1);
    }

    private boolean tellNode(int node, int kind, int figure) {
        if (!isNode(node)) return false;
        mind.putKind(node, kind);
        mind.putFigure(node, figure);
        return true;
    }

    private boolean tellWet(int node, int v) {
        if (!isNode(node)) return false;
        mind.putWet(node, v);
        return true;
    }

    private boolean tellComing(int node, int way) {
        if (!isNode(node) || !isWay(way) || mind.isFull()) return false;
        mind.add(node, way);
        return true;
    }

    private boolean tellHeading(int person, int way) {
        if (!mind.has(person) || !isWay(way)) return false;
        mind.putHeading(person, way);
        return true;
    }

    private boolean tellPlace(int person, int node) {
        if (!mind.has(person) || !isNode(node)) return false;
        mind.putPlace(person, node);
        return true;
    }

    private boolean tellSteps(int n) {
        if (outside(n, 1, MOST_STEPS) != 0 || mind.stepCount() + n > MOST_STEP) return false;
        mind.goOn(n, NOBODY_STANDS);
        return true;
    }

    // ---- ways from node to node ----

    /** The least cost from one node to another, leaving a wet node for one cost and a dry one for another. */
    private int leastCost(int from, int to, int wetCost, int dryCost) {
        Arrays.fill(costs, UNREACHED);
        putCost(from, 0);
        boolean changed = true;
        for (int i = 0; i < NODES && changed; i++) {
            changed = false;
            for (int node = 0; node < NODES; node++) {
                int leaving = now.wetOf(node) > 0 ? wetCost : dryCost;
                if (costOf(node) < UNREACHED && spread(node, costOf(node) + leaving)) changed = true;
            }
        }
        return costOf(to);
    }

    private boolean spread(int node, int cost) {
        boolean changed = false;
        for (int way = 0; way < WAYS; way++) {
            int next = nodeThatWay(node, way);
            if (next >= 0 && cost < costOf(next)) {
                putCost(next, cost);
                changed = true;
            }
        }
        return changed;
    }

    private int costOf(int node) {
        return node >= 0 && node < costs.length ? costs[node] : UNREACHED;
    }

    private void putCost(int node, int cost) {
        if (node >= 0 && node < costs.length) costs[node] = cost;
    }

    /** The node next to one, -1 beyond the edge. */
    private static int nodeThatWay(int node, int way) {
        int row = node / COLUMNS;
        int column = node % COLUMNS;
        switch (way) {
            case 0: return row > 0 ? node - COLUMNS : -1;
            case 1: return column < COLUMNS - 1 ? node + 1 : -1;
            case 2: return row < ROWS - 1 ? node + COLUMNS : -1;
            default: return column > 0 ? node - 1 : -1;
        }
    }

    // ---- two, steam, the row, lots ----

    /** What each of two has, if the first goes on by bit 1 of a pair and the other by bit 0. */
    private void reckonGains(int pair, int first, int other, int n) {
        mind.becomes(now);
        int standing = ((pair & 2) == 0 ? 1 << first : 0) | ((pair & 1) == 0 ? 1 << other : 0);
        int seenByFirst = 0;
        int seenByOther = 0;
        int meeting = 0;
        for (int i = 0; i <= n; i++) {
            if (i > 0) mind.goOn(1, standing);
            seenByFirst |= 1 << mind.placeOf(first);
            seenByOther |= 1 << mind.placeOf(other);
            if (mind.placeOf(first) == mind.placeOf(other)) meeting = 2;
        }
        putGain(pair, 0, Integer.bitCount(seenByFirst) + meeting);
        putGain(pair, 1, Integer.bitCount(seenByOther) + meeting);
    }

    private int gainOf(int pair, int who) {
        int i = 2 * pair + who;
        return i >= 0 && i < gains.length ? gains[i] : 0;
    }

    private void putGain(int pair, int who, int gain) {
        int i = 2 * pair + who;
        if (i >= 0 && i < gains.length) gains[i] = gain;
    }

    /** Goes on in mind, the steps of the set bits in steam: how many of all t to the n chances are so. */
    private long weightInSteam(int n, int t, int steamy) {
        mind.becomes(now);
        long weight = 1;
        for (int i = 0; i < n; i++) {
            boolean steam = (steamy >> i & 1) == 1;
            mind.goOn(1, steam ? ALL_STAND : NOBODY_STANDS);
            if (!steam) weight *= t - 1;
        }
        return weight;
    }

    private static long partOf(long above, long below, int part) {
        long divisor = commonDivisor(above, below);
        if (divisor == 0) return 0;
        return part == 0 ? above / divisor : below / divisor;
    }

    private static long commonDivisor(long a, long b) {
        long one = a;
        long other = b;
        for (int i = 0; i < 200 && other != 0; i++) {
            long rest = one % other;
            one = other;
            other = rest;
        }
        return one;
    }

    private int toldAt(int i) {
        return i >= 0 && i < toldCount && i < told.length ? told[i] : NONE;
    }

    /** Whether one is, in mind as it stands, where the row tells. */
    private boolean isAsTold(int person) {
        for (int i = 0; i < toldCount; i++) {
            if (i > 0) mind.goOn(1, NOBODY_STANDS);
            if (mind.placeOf(person) != toldAt(i)) return false;
        }
        return true;
    }

    private void drawPeople() {
        for (int person = 0; person < mind.peopleCount(); person++) {
            mind.putPlace(person, draw(NODES));
            mind.putHeading(person, draw(WAYS));
        }
    }

    private int draw(int below) {
        seed = seed * 1664525 + 1013904223;
        return below > 0 ? (seed & WITHOUT_SIGN) / 256 % below : 0;
    }

    /** All that an image holds: the nodes, the people, the step. */
    private static final class Bath {
        private final int[] kind = new int[NODES];
        private final int[] figure = new int[NODES];
        private final int[] wet = new int[NODES];
        private final int[] place = new int[PEOPLE];
        private final int[] heading = new int[PEOPLE];
        private final int[] helped = new int[PEOPLE];
        private int people;
        private int step;

        Bath() {
            Arrays.fill(wet, MOST_WET);
        }

        void becomes(Bath other) {
            if (other == null) return;
            System.arraycopy(other.kind, 0, kind, 0, NODES);
            System.arraycopy(other.figure, 0, figure, 0, NODES);
            System.arraycopy(other.wet, 0, wet, 0, NODES);
            System.arraycopy(other.place, 0, place, 0, PEOPLE);
            System.arraycopy(other.heading, 0, heading, 0, PEOPLE);
            System.arraycopy(other.helped, 0, helped, 0, PEOPLE);
            people = other.people;
            step = other.step;
        }

        int peopleCount() {
            return people;
        }

        int stepCount() {
            return step;
        }

        boolean isFull() {
            return people >= PEOPLE;
        }

        boolean has(int person) {
            return person >= 0 && person < people && person < PEOPLE;
        }

        int add(int node, int way) {
            int person = people;
            if (person < 0 || person >= PEOPLE) return NONE;
            people++;
            place[person] = node;
            heading[person] = way;
            helped[person] = 0;
            return person;
        }

        int kindOf(int node) {
            return isNode(node) ? kind[node] : 0;
        }

        int figureOf(int node) {
            return isNode(node) ? figure[node] : 0;
        }

        int wetOf(int node) {
            return isNode(node) ? wet[node] : 0;
        }

        void putKind(int node, int v) {
            if (isNode(node)) kind[node] = v;
        }

        void putFigure(int node, int v) {
            if (isNode(node)) figure[node] = v;
        }

        void putWet(int node, int v) {
            if (isNode(node)) wet[node] = v;
        }

        int placeOf(int person) {
            return has(person) ? place[person] : 0;
        }

        int headingOf(int person) {
            return has(person) ? heading[person] : 0;
        }

        int helpedOf(int person) {
            return has(person) ? helped[person] : 0;
        }

        void putPlace(int person, int node) {
            if (has(person)) place[person] = node;
        }

        void putHeading(int person, int way) {
            if (has(person)) heading[person] = way;
        }

        /** His node (0), heading (1) or helped (2). */
        int ofPerson(int person, int what) {
            if (what == 0) return placeOf(person);
            return what == 1 ? headingOf(person) : helpedOf(person);
        }

        int wayNext(int person) {
            int node = placeOf(person);
            if (wetOf(node) == 0) return NONE;
            return wayBy(kindOf(node), figureOf(node), headingOf(person), step + 1);
        }

        /** The way by which one goes on from a node of a kind and a figure, heading a way. */
        private static int wayBy(int kind, int figure, int way, int atStep) {
            int left = (way + 3) % WAYS;
            switch (kind) {
                case LEFT: return left;
                case RIGHT: return (left + 2) % WAYS;
                case CHOICE: return atStep % 4 == 0 ? figure % WAYS : way;
                case BEND: return atStep % 2 == 1 ? left : way;
                case YES: return (way + 2) % WAYS;
                default: return way;
            }
        }

        /** So many steps, in which those whose bits are set stand where they are. */
        void goOn(int n, int standing) {
            for (int i = 0; i < n; i++) {
                step++;
                for (int person = 0; person < people; person++) {
                    if ((standing >> person & 1) == 0) follow(person);
                }
            }
        }

        private void follow(int person) {
            if (!has(person)) return;
            int from = place[person];
            if (!isNode(from) || wet[from] == 0) return;
            int way = wayBy(kind[from], figure[from], heading[person], step);
            int to = nodeThatWay(from, way);
            if (to < 0) {
                heading[person] = (way + 2) % WAYS;
                helped[person] = Math.min(MOST_HELPED, helped[person] + 1);
            } else {
                heading[person] = way;
                place[person] = to;
                if (step % 2 == 0) wet[from]--;
            }
        }

        /** Behind how many steps one is at a node first; none within the most. */
        int soonestAt(int person, int node) {
            for (int n = 0; n <= MOST_STEPS; n++) {
                if (placeOf(person) == node) return n;
                goOn(1, NOBODY_STANDS);
            }
            return NONE;
        }

        int visitsIn(int person, int n) {
            int seen = 1 << placeOf(person);
            for (int i = 0; i < n; i++) {
                goOn(1, NOBODY_STANDS);
                seen |= 1 << placeOf(person);
            }
            return Integer.bitCount(seen);
        }

        int dryNodes() {
            int bits = 0;
            for (int node = 0; node < NODES; node++) {
                if (wetOf(node) == 0) bits |= 1 << node;
            }
            return bits;
        }

        int wettest() {
            int best = 0;
            for (int node = 1; node < NODES; node++) {
                if (wetOf(node) > wetOf(best)) best = node;
            }
            return best;
        }

        int wettestRow() {
            int best = 0;
            for (int row = 1; row < ROWS; row++) {
                if (wetInRow(row) > wetInRow(best)) best = row;
            }
            return best;
        }

        private int wetInRow(int row) {
            int all = 0;
            for (int column = 0; column < COLUMNS; column++) all += wetOf(row * COLUMNS + column);
            return all;
        }

        int allWet() {
            int all = 0;
            for (int row = 0; row < ROWS; row++) all += wetInRow(row);
            return all;
        }

        int allFigures() {
            int all = 0;
            for (int node = 0; node < NODES; node++) all += figureOf(node);
            return all;
        }

        int allHelped() {
            int all = 0;
            for (int person = 0; person < people; person++) all += helpedOf(person);
            return all;
        }

        int mostHelped() {
            int best = NONE;
            for (int person = 0; person < people; person++) {
                if (best < 0 || helpedOf(person) > helpedOf(best)) best = person;
            }
            return best;
        }

        int together() {
            int once = 0;
            int twice = 0;
            for (int person = 0; person < people; person++) {
                int bit = 1 << placeOf(person);
                twice |= once & bit;
                once |= bit;
            }
            return twice;
        }

        int atEdges() {
            int many = 0;
            for (int person = 0; person < people; person++) {
                if (isAtEdge(placeOf(person))) many++;
            }
            return many;
        }

        private static boolean isAtEdge(int node) {
            for (int way = 0; way < WAYS; way++) {
                if (nodeThatWay(node, way) < 0) return true;
            }
            return false;
        }

        int stuckPeople() {
            int many = 0;
            for (int person = 0; person < people; person++) {
                if (wetOf(placeOf(person)) == 0) many++;
            }
            return many;
        }

        int nearest(int node) {
            int best = NONE;
            int least = NODES;
            for (int person = 0; person < people; person++) {
                int far = distance(placeOf(person), node);
                if (far < least) {
                    best = person;
                    least = far;
                }
            }
            return best;
        }

        private static int distance(int one, int other) {
            int rows = Math.abs(one / COLUMNS - other / COLUMNS);
            int columns = Math.abs(one % COLUMNS - other % COLUMNS);
            return rows + columns;
        }
    }
}
