import java.util.function.IntPredicate;
import java.util.function.IntUnaryOperator;

/** Named tests, each on objects of its own; an answer that is not as due is told with the name of its test. */
final class Bench {
    static final long LONG = 4000000000000000000L;
    static final int LEAST = Integer.MIN_VALUE;
    static final int GREATEST = Integer.MAX_VALUE;

    private static int tests = 0;
    private static int wrong = 0;
    private static String name = "";

    private Bench() {
    }

    static void test(String title, Runnable body) {
        tests++;
        name = title;
        body.run();
    }

    static void due(String call, long got, long want) {
        if (got != want) say(call + " answered " + got + ", due is " + want);
    }

    static void due(String call, String got, String want) {
        if (!got.equals(want)) say(call + " answered " + got + ", due is " + want);
    }

    private static void say(String what) {
        wrong++;
        System.out.println("[" + name + "] " + what);
    }

    static void end(String what) {
        System.out.println(what + ": " + tests + " tests, " + wrong + " answers not as due");
        if (wrong != 0) System.exit(1);
    }

    static GroutingIsFollowed fresh() {
        return new GroutingIsFollowed();
    }

    static void send(GroutingIsFollowed x, String text) {
        for (char c : text.toCharArray()) x.letter(c);
    }

    static int tell(GroutingIsFollowed x, String text) {
        send(x, text);
        return x.wall();
    }

    /** A new object behind a wall that must come. */
    static GroutingIsFollowed told(String text) {
        GroutingIsFollowed x = fresh();
        int statements = (int) text.chars().filter(c -> c == ';').count();
        due("wall of " + text, tell(x, text), statements);
        return x;
    }

    static GroutingIsFollowed atStep(int step) {
        GroutingIsFollowed x = fresh();
        int left = step;
        while (left > 0) {
            x.steps(Math.min(left, 60));
            left -= Math.min(left, 60);
        }
        due("STEP", x.count(1), step);
        return x;
    }

    static void rows(GroutingIsFollowed x, int... numbers) {
        for (int v : numbers) x.row(v);
    }

    static void allWet(GroutingIsFollowed x, int v) {
        for (int node = 0; node < 30; node++) x.wets(node, v);
    }

    /** The refusals -1, -2, -3, -4, -6, as they are counted; -5 is never told. */
    static void refused(GroutingIsFollowed x, int nobody, int other, int state, int below, int room) {
        String got = x.count(11) + " " + x.count(12) + " " + x.count(13) + " " + x.count(14) + " " + x.count(15) + " "
            + x.count(16);
        due("count(11) .. count(16)", got, nobody + " " + other + " " + state + " " + below + " 0 " + room);
    }

    /** All nodes, people and counts but the refusals. */
    static String state(GroutingIsFollowed x) {
        StringBuilder b = new StringBuilder();
        for (int node = 0; node < 30; node++) b.append(x.node(node, 0)).append(x.node(node, 1)).append(x.node(node, 2)).append(' ');
        int people = x.count(0);
        for (int person = 0; person < people; person++) {
            for (int what = 0; what < 3; what++) b.append(x.person(person, what)).append(',');
        }
        for (int what = 0; what <= 7; what++) b.append(x.count(what)).append(';');
        return b.toString();
    }

    /** The first of the numbers from .. to of which it is so; -9 if there is none. */
    static int first(int from, int to, IntPredicate so) {
        for (int i = from; i <= to; i++) if (so.test(i)) return i;
        return -9;
    }

    /** The first of the numbers 0 .. to of which most is told. */
    static int most(int to, IntUnaryOperator many) {
        int best = 0;
        for (int i = 1; i <= to; i++) if (many.applyAsInt(i) > many.applyAsInt(best)) best = i;
        return best;
    }
}
