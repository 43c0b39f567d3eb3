import java.util.ArrayList;
import java.util.List;

/**
 * Every call with every mixture of good and wrong arguments: it answers the first number that fits in the order
 * in which its promise tells them, that one is counted once, and nothing else changes.
 */
public final class RefusalsTest {
    private interface Answer {
        long to(GroutingIsFollowed x, int[] a);
    }

    /** What an argument may be: good ones, and wrong ones with the refusal of each. */
    private static final class Argument {
        private final int[] good;
        private final int[][] wrong;

        Argument(int[] good, int[]... wrong) {
            this.good = good;
            this.wrong = wrong;
        }
    }

    private static final int[] ALL_NOBODY = {1, -1, 2, 3, 4, Bench.LEAST, Bench.GREATEST};
    private static final int[] ALL_NOWHERE = {1, -1, 30, Bench.LEAST, Bench.GREATEST};
    private static final int[] ALL_NO_WAY = {1, -1, 4, Bench.LEAST, Bench.GREATEST};
    private static final int[] BELOW_0 = {4, -1, Bench.LEAST};

    private static int refused = 0;
    private static int taken = 0;

    public static void main(String[] args) {
        nodes();
        people();
        inMind();
        choices();
        answers();
        roomForNoMore();
        System.out.println(taken + " calls with good arguments, " + refused + " refused");
        Bench.end("refusals");
    }

    // ---- arguments ----

    private static Argument person() {
        return new Argument(new int[] {0, 1}, ALL_NOBODY);
    }

    /** The other of two: not he who is good as the first. */
    private static Argument other() {
        return new Argument(new int[] {1}, ALL_NOBODY, new int[] {1, 0});
    }

    private static Argument one() {
        return new Argument(new int[] {0}, ALL_NOBODY);
    }

    private static Argument node() {
        return new Argument(new int[] {0, 29}, ALL_NOWHERE);
    }

    private static Argument oneWay() {
        return new Argument(new int[] {0, 3}, ALL_NO_WAY);
    }

    private static Argument number(int least, int greatest) {
        return new Argument(new int[] {least, greatest},
            new int[] {4, least - 1, Bench.LEAST}, new int[] {6, greatest + 1, Bench.GREATEST});
    }

    private static Argument what(int greatest) {
        return new Argument(new int[] {0, greatest}, new int[] {2, -1, greatest + 1, Bench.LEAST, Bench.GREATEST});
    }

    // ---- the calls, with the order in which each tells its refusals ----

    private static void nodes() {
        each("node", "12", (x, a) -> x.node(a[0], a[1]), node(), what(2));
        each("lays", "1246", (x, a) -> x.lays(a[0], a[1], a[2]), node(), what(5), number(0, 9));
        each("wets", "146", (x, a) -> x.wets(a[0], a[1]), node(), number(0, 9));
        each("way", "12", (x, a) -> x.way(a[0], a[1], a[2]), node(), node(), what(1));
        each("near", "1", (x, a) -> x.near(a[0]), node());
        each("kinds", "2", (x, a) -> x.kinds(a[0]), what(5));
        each("dry", "2", (x, a) -> x.dry(a[0]), what(6));
        each("mean", "2", (x, a) -> x.mean(a[0]), what(1));
    }

    private static void people() {
        each("person", "12", (x, a) -> x.person(a[0], a[1]), person(), what(3));
        each("comesIn", "16", (x, a) -> x.comesIn(a[0], a[1]), node(), oneWay());
        each("heads", "1", (x, a) -> x.heads(a[0], a[1]), person(), oneWay());
        each("stands", "1", (x, a) -> x.stands(a[0], a[1]), person(), node());
        each("steps", "46", (x, a) -> x.steps(a[0]), number(1, 60));
    }

    private static void inMind() {
        each("personThen", "1462", (x, a) -> x.personThen(a[0], a[1], a[2]), person(), number(0, 60), what(2));
        each("wetThen", "146", (x, a) -> x.wetThen(a[0], a[1]), node(), number(0, 60));
        each("comes", "1", (x, a) -> x.comes(a[0], a[1]), person(), node());
        each("visits", "146", (x, a) -> x.visits(a[0], a[1]), person(), number(0, 60));
        each("stops", "1", (x, a) -> x.stops(a[0]), person());
        each("meets", "1", (x, a) -> x.meets(a[0], a[1]), one(), other());
        each("round", "1", (x, a) -> x.round(a[0]), person());
    }

    private static void choices() {
        each("begin", "1462", (x, a) -> x.begin(a[0], a[1], a[2]), person(), number(0, 30), what(1));
        each("head", "1", (x, a) -> x.head(a[0], a[1]), person(), node());
        each("damp", "146", (x, a) -> x.damp(a[0], a[1]), person(), number(0, 30));
        each("bestKind", "146", (x, a) -> x.bestKind(a[0], a[1], a[2]), node(), person(), number(0, 30));
        each("two", "146", (x, a) -> x.two(a[0], a[1], a[2]), one(), other(), number(0, 30));
    }

    private static void answers() {
        each("steam", "1462", (x, a) -> x.steam(a[0], a[1], a[2], a[3], a[4]),
            person(), node(), number(0, 7), number(2, 20), what(1));
        each("whatIs", "12", (x, a) -> x.whatIs(a[0], a[1], a[2]), node(), person(), what(1));
        each("row", "46", (x, a) -> x.row(a[0]), number(0, 99));
        each("letter", "46", (x, a) -> x.letter(a[0]), number(0, 255));
        Argument seed = new Argument(new int[] {0, Bench.LEAST, Bench.GREATEST});
        each("lots", "462", (x, a) -> x.lots(a[0], a[1], a[2]), number(1, 20), seed, what(1));
    }

    private static void roomForNoMore() {
        full("letter", 96 - 6, x -> x.letter('n'));
        full("row", 16 - 3, x -> x.row(4));
        full("comesIn", 2, x -> x.comesIn(7, 1));
    }

    // ---- the runs ----

    private static boolean isLong(String name) {
        return name.equals("steam") || name.equals("mean");
    }

    private static void each(String name, String order, Answer answer, Argument... arguments) {
        Bench.test(name + " with good and wrong arguments", () ->
            mix(name, order, answer, arguments, new int[arguments.length], new int[arguments.length], 0));
    }

    /** All mixtures of the arguments from i on. */
    private static void mix(String name, String order, Answer answer, Argument[] arguments, int[] a, int[] refusals, int i) {
        if (i == arguments.length) {
            int due = firstThatFits(order, refusals);
            if (due == 0) taken(name, answer, a.clone());
            else refused(name, answer, a.clone(), due);
            return;
        }
        for (int good : arguments[i].good) {
            a[i] = good;
            refusals[i] = 0;
            mix(name, order, answer, arguments, a, refusals, i + 1);
        }
        for (int[] wrong : arguments[i].wrong) {
            int most = arguments.length > 3 ? Math.min(wrong.length, 3) : wrong.length;
            for (int j = 1; j < most; j++) {
                a[i] = wrong[j];
                refusals[i] = wrong[0];
                mix(name, order, answer, arguments, a, refusals, i + 1);
            }
        }
    }

    private static int firstThatFits(String order, int[] refusals) {
        for (char c : order.toCharArray()) {
            for (int refusal : refusals) if (refusal == c - '0') return refusal;
        }
        return 0;
    }

    private static String told(String name, int[] a) {
        List<String> all = new ArrayList<>();
        for (int v : a) all.add("" + v);
        return name + "(" + String.join(", ", all) + ")";
    }

    /** Two people, STEP 2, an image of them at STEP 1, letters, a ROW. */
    private static GroutingIsFollowed inUse() {
        GroutingIsFollowed x = Bench.told("n15r2;w163;p140;p000;s01;");
        x.image();
        Bench.tell(x, "n15b7;w142;s01;");
        Bench.send(x, "n07l3;");
        Bench.rows(x, 8, 9, 4);
        return x;
    }

    private static void taken(String name, Answer answer, int[] a) {
        taken++;
        GroutingIsFollowed x = inUse();
        long got = answer.to(x, a);
        boolean isRefusal = isLong(name) ? got > 3000000000000000000L : got < 0 && got != -9;
        if (isRefusal) Bench.due(told(name, a) + ", all good,", got, 0);
        Bench.refused(x, 0, 0, 0, 0, 0);
    }

    private static void refused(String name, Answer answer, int[] a, int due) {
        refused++;
        GroutingIsFollowed x = inUse();
        String before = Bench.state(x);
        long got = answer.to(x, a);
        Bench.due(told(name, a), got, isLong(name) ? Bench.LONG + due : -due);
        Bench.refused(x, due == 1 ? 1 : 0, due == 2 ? 1 : 0, 0, due == 4 ? 1 : 0, due == 6 ? 1 : 0);
        Bench.due("state behind " + told(name, a), Bench.state(x), before);
        restIsAsItWas(x, told(name, a), 2, 1);
    }

    /** The ROW, the letters and the image, behind a call that was refused. */
    private static void restIsAsItWas(GroutingIsFollowed x, String call, int judged, int statements) {
        Bench.due("the ROW behind " + call, x.judge(), judged);
        Bench.due("the letters behind " + call, x.wall(), statements);
        Bench.due("the image behind " + call, x.on(), 1);
        Bench.due("its PEOPLE behind " + call, x.person(0, 0) + 30 * x.person(1, 0) + 900 * x.count(0), 8 + 1800);
        Bench.due("its HEADING behind " + call, x.person(0, 1) + 4 * x.person(1, 1), 8);
        Bench.due("its NODES behind " + call, x.node(15, 0) * 100 + x.node(15, 1) * 10 + x.node(7, 0), 220);
        Bench.due("its WET behind " + call, x.count(2), 264);
    }

    private interface More {
        int come(GroutingIsFollowed x);
    }

    private static void full(String name, int room, More more) {
        Bench.test(name + " when there is no room", () -> {
            GroutingIsFollowed x = inUse();
            for (int i = 0; i < room; i++) more.come(x);
            Bench.refused(x, 0, 0, 0, 0, 0);
            String before = Bench.state(x);
            Bench.due(name, more.come(x), -6);
            Bench.due("state behind " + name, Bench.state(x), before);
            Bench.refused(x, 0, 0, 0, 0, 1);
            restIsAsItWas(x, name, 2, name.equals("letter") ? -1000 - 7 : 1);
        });
    }
}
