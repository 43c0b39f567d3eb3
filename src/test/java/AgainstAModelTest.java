import java.math.BigInteger;
import java.util.ArrayDeque;
import java.util.ArrayList;
import java.util.Arrays;
import java.util.Deque;
import java.util.HashSet;
import java.util.List;
import java.util.Random;
import java.util.Set;
import java.util.function.IntUnaryOperator;
import java.util.function.ToIntFunction;
import java.util.regex.Matcher;
import java.util.regex.Pattern;

/** Long made runs of calls, each answer compared with that of a model written apart, by the document alone. */
public final class AgainstAModelTest {
    private static final int[] DOWN = {-1, 0, 1, 0};
    private static final int[] ACROSS = {0, 1, 0, -1};
    private static final Pattern WALL =
        Pattern.compile("((n\\d\\d[slrcby]\\d|[wp]\\d\\d\\d|h\\d\\d|a\\d\\d\\d|s\\d\\d);)+");

    private static int wrong = 0;

    /** All that there is at one time; told anew for each question. */
    private static final class World {
        String kinds = "s".repeat(30);
        int[] figures = new int[30];
        int[] wet = new int[30];
        List<int[]> people = new ArrayList<>();
        int step = 0;

        static World fresh() {
            World w = new World();
            Arrays.fill(w.wet, 9);
            return w;
        }

        World copy() {
            World w = new World();
            w.kinds = kinds;
            w.figures = figures.clone();
            w.wet = wet.clone();
            for (int[] p : people) w.people.add(p.clone());
            w.step = step;
            return w;
        }

        World kind(int node, char letter) {
            kinds = kinds.substring(0, node) + letter + kinds.substring(node + 1);
            return this;
        }

        int way(int node, int heading, int step) {
            return switch (kinds.charAt(node)) {
                case 'l' -> left(heading);
                case 'r' -> (left(heading) + 2) & 3;
                case 'c' -> step % 4 == 0 ? figures[node] & 3 : heading;
                case 'b' -> (step & 1) == 1 ? left(heading) : heading;
                case 'y' -> (heading + 2) & 3;
                default -> heading;
            };
        }

        static int left(int heading) {
            return heading == 0 ? 3 : heading - 1;
        }

        static int next(int node, int way) {
            int row = node / 6 + DOWN[way];
            int column = node % 6 + ACROSS[way];
            return row < 0 || row > 4 || column < 0 || column > 5 ? -1 : row * 6 + column;
        }

        /** The worlds behind 0, 1, .. n steps, in which the people of a set stand. */
        List<World> ahead(int n, Set<Integer> standing) {
            List<World> all = new ArrayList<>();
            all.add(this);
            for (int i = 0; i < n; i++) all.add(all.get(i).after(standing));
            return all;
        }

        List<World> ahead(int n) {
            return ahead(n, Set.of());
        }

        World then(int n) {
            return ahead(n).get(n);
        }

        World after(Set<Integer> standing) {
            World w = copy();
            w.step = step + 1;
            for (int i = 0; i < w.people.size(); i++) {
                int[] p = w.people.get(i);
                if (standing.contains(i) || w.wet[p[0]] == 0) continue;
                int way = w.way(p[0], p[1], w.step);
                int to = next(p[0], way);
                if (to == -1) {
                    p[1] = (way + 2) & 3;
                    if (p[2] < 99) p[2]++;
                } else {
                    if (w.step % 2 == 0) w.wet[p[0]]--;
                    p[0] = to;
                    p[1] = way;
                }
            }
            return w;
        }

        int at(int person) {
            return people.get(person)[0];
        }

        int visits(int person, int n, Set<Integer> standing) {
            Set<Integer> seen = new HashSet<>();
            for (World w : ahead(n, standing)) seen.add(w.at(person));
            return seen.size();
        }

        int visits(int person, int n) {
            return visits(person, n, Set.of());
        }

        int first(int from, ToIntFunction<World> holds) {
            List<World> all = ahead(60);
            for (int i = from; i <= 60; i++) if (holds.applyAsInt(all.get(i)) == 1) return i;
            return -9;
        }

        int helped() {
            return people.stream().mapToInt(p -> p[2]).sum();
        }

        int allWet() {
            return Arrays.stream(wet).sum();
        }
    }

    private World w = World.fresh();
    private World image = null;
    private String letters = "";
    private final List<Integer> row = new ArrayList<>();
    private final int[] refusals = new int[7];

    private int no(int number) {
        refusals[-number]++;
        return number;
    }

    private boolean nobody(int person) {
        return person < 0 || person >= w.people.size();
    }

    private static boolean nowhere(int node) {
        return node < 0 || node > 29;
    }

    private static boolean noWay(int way) {
        return way < 0 || way > 3;
    }

    int letter(int c) {
        if (c < 0) return no(-4);
        if (c > 255 || letters.length() == 96) return no(-6);
        letters += (char) c;
        return letters.length();
    }

    int wall() {
        String text = letters;
        letters = "";
        Matcher whole = WALL.matcher(text);
        if (!whole.matches()) {
            for (int i = 1; i <= text.length(); i++) {
                Matcher m = WALL.matcher(text.substring(0, i));
                if (!m.matches() && !m.hitEnd()) return -1000 - (i - 1);
            }
            return -1000 - text.length();
        }
        World told = w.copy();
        int place = 0;
        String[] statements = text.split(";");
        for (String s : statements) {
            told = tell(told, s.charAt(0), s.substring(1));
            if (told == null) return -2000 - place;
            place += s.length() + 1;
        }
        w = told;
        return statements.length;
    }

    private static World tell(World told, char first, String rest) {
        int two = Integer.parseInt(rest.substring(0, 2));
        int one = rest.charAt(0) - '0';
        int last = rest.charAt(rest.length() - 1) - '0';
        switch (first) {
            case 'n':
                if (two > 29) return null;
                told.figures[two] = last;
                return told.kind(two, rest.charAt(2));
            case 'w':
                if (two > 29) return null;
                told.wet[two] = last;
                return told;
            case 'p':
                if (two > 29 || last > 3 || told.people.size() == 4) return null;
                told.people.add(new int[] {two, last, 0});
                return told;
            case 'h':
                if (one >= told.people.size() || last > 3) return null;
                told.people.get(one)[1] = last;
                return told;
            case 'a':
                int node = Integer.parseInt(rest.substring(1));
                if (one >= told.people.size() || node > 29) return null;
                told.people.get(one)[0] = node;
                return told;
            default:
                return two < 1 || two > 60 || told.step + two > 999 ? null : told.then(two);
        }
    }

    int node(int node, int what) {
        if (nowhere(node)) return no(-1);
        if (what == 0) return "slrcby".indexOf(w.kinds.charAt(node));
        return what == 1 ? w.figures[node] : what == 2 ? w.wet[node] : no(-2);
    }

    int person(int person, int what) {
        if (nobody(person)) return no(-1);
        if (what < 0 || what > 3) return no(-2);
        int[] p = w.people.get(person);
        if (what < 3) return p[what];
        return w.wet[p[0]] == 0 ? -9 : w.way(p[0], p[1], w.step + 1);
    }

    int lays(int node, int kind, int figure) {
        if (nowhere(node)) return no(-1);
        if (kind < 0 || kind > 5) return no(-2);
        if (figure < 0) return no(-4);
        if (figure > 9) return no(-6);
        int had = 10 * node(node, 0) + w.figures[node];
        w.kind(node, "slrcby".charAt(kind));
        w.figures[node] = figure;
        return had;
    }

    int wets(int node, int v) {
        if (nowhere(node)) return no(-1);
        if (v < 0) return no(-4);
        if (v > 9) return no(-6);
        int had = w.wet[node];
        w.wet[node] = v;
        return had;
    }

    int comesIn(int node, int way) {
        if (nowhere(node) || noWay(way)) return no(-1);
        if (w.people.size() == 4) return no(-6);
        w.people.add(new int[] {node, way, 0});
        return w.people.size() - 1;
    }

    int heads(int person, int way) {
        if (nobody(person) || noWay(way)) return no(-1);
        int had = w.people.get(person)[1];
        w.people.get(person)[1] = way;
        return had;
    }

    int stands(int person, int node) {
        if (nobody(person) || nowhere(node)) return no(-1);
        int had = w.at(person);
        w.people.get(person)[0] = node;
        return had;
    }

    int steps(int n) {
        if (n < 1) return no(-4);
        if (n > 60 || w.step + n > 999) return no(-6);
        w = w.then(n);
        return w.allWet();
    }

    int personThen(int person, int n, int what) {
        if (nobody(person)) return no(-1);
        if (n < 0) return no(-4);
        if (n > 60) return no(-6);
        if (what < 0 || what > 2) return no(-2);
        return w.then(n).people.get(person)[what];
    }

    int wetThen(int node, int n) {
        if (nowhere(node)) return no(-1);
        if (n < 0) return no(-4);
        return n > 60 ? no(-6) : w.then(n).wet[node];
    }

    int comes(int person, int node) {
        if (nobody(person) || nowhere(node)) return no(-1);
        return w.first(0, then -> then.at(person) == node ? 1 : 0);
    }

    int visits(int person, int n) {
        if (nobody(person)) return no(-1);
        if (n < 0) return no(-4);
        return n > 60 ? no(-6) : w.visits(person, n);
    }

    int stops(int person) {
        if (nobody(person)) return no(-1);
        return w.first(0, then -> then.wet[then.at(person)] == 0 ? 1 : 0);
    }

    int meets(int one, int other) {
        if (nobody(one) || nobody(other) || one == other) return no(-1);
        return w.first(0, then -> then.at(one) == then.at(other) ? 1 : 0);
    }

    int round(int person) {
        if (nobody(person)) return no(-1);
        int[] p = w.people.get(person);
        return w.first(1, then -> Arrays.equals(then.people.get(person), 0, 2, p, 0, 2) ? 1 : 0);
    }

    int way(int node, int other, int what) {
        if (nowhere(node) || nowhere(other)) return no(-1);
        if (what < 0 || what > 1) return no(-2);
        int[] far = new int[30];
        Arrays.fill(far, -9);
        far[node] = 0;
        Deque<Integer> open = new ArrayDeque<>(List.of(node));
        while (!open.isEmpty()) {
            int from = open.poll();
            if (what == 0 && w.wet[from] == 0) continue;
            int by = far[from] + (what == 0 || w.wet[from] == 0 ? 1 : 0);
            for (int i = 0; i < 4; i++) {
                int to = World.next(from, i);
                if (to >= 0 && (far[to] == -9 || far[to] > by)) {
                    far[to] = by;
                    open.add(to);
                }
            }
        }
        return far[other];
    }

    /** The place of the greatest number, of several the first. */
    private static int best(int count, IntUnaryOperator worth) {
        int best = 0;
        for (int i = 1; i < count; i++) if (worth.applyAsInt(i) > worth.applyAsInt(best)) best = i;
        return best;
    }

    int begin(int person, int n, int what) {
        if (nobody(person)) return no(-1);
        if (n < 0) return no(-4);
        if (n > 30) return no(-6);
        if (what < 0 || what > 1) return no(-2);
        int[] seen = new int[30];
        for (int node = 0; node < 30; node++) {
            World other = w.copy();
            other.people.get(person)[0] = node;
            seen[node] = other.visits(person, n);
        }
        int best = best(30, i -> seen[i]);
        return what == 0 ? best : seen[best];
    }

    int head(int person, int node) {
        if (nobody(person) || nowhere(node)) return no(-1);
        int[] behind = new int[4];
        for (int way = 0; way < 4; way++) {
            World other = w.copy();
            other.people.get(person)[1] = way;
            int first = other.first(0, then -> then.at(person) == node ? 1 : 0);
            behind[way] = first == -9 ? 99 : first;
        }
        int best = best(4, i -> -behind[i]);
        return behind[best] == 99 ? -9 : best;
    }

    int damp(int person, int n) {
        if (nobody(person)) return no(-1);
        if (n < 0) return no(-4);
        if (n > 30) return no(-6);
        int[] seen = new int[30];
        for (int node = 0; node < 30; node++) {
            World other = w.copy();
            other.wet[node] = 9;
            seen[node] = other.visits(person, n);
        }
        int best = best(30, i -> seen[i]);
        return seen[best] > w.visits(person, n) ? best : -9;
    }

    int bestKind(int node, int person, int n) {
        if (nowhere(node) || nobody(person)) return no(-1);
        if (n < 0) return no(-4);
        if (n > 30) return no(-6);
        int[] seen = new int[6];
        for (int kind = 0; kind < 6; kind++) seen[kind] = w.copy().kind(node, "slrcby".charAt(kind)).visits(person, n);
        return best(6, i -> seen[i]);
    }

    int dry(int what) {
        int n = w.people.size();
        switch (what) {
            case 0: return (int) Arrays.stream(w.wet).filter(v -> v == 0).count();
            case 1: return best(30, i -> w.wet[i]);
            case 2: return w.allWet();
            case 3: return n == 0 ? -9 : best(n, i -> w.people.get(i)[2]);
            case 4:
                int bits = 0;
                for (int i = 0; i < n; i++) for (int j = 0; j < i; j++) if (w.at(i) == w.at(j)) bits |= 1 << w.at(i);
                return bits;
            case 5:
                return (int) w.people.stream().filter(p -> p[0] < 6 || p[0] > 23 || p[0] % 6 == 0 || p[0] % 6 == 5).count();
            case 6: return best(5, i -> Arrays.stream(w.wet, 6 * i, 6 * i + 6).sum());
            default: return no(-2);
        }
    }

    int kinds(int kind) {
        if (kind < 0 || kind > 5) return no(-2);
        return (int) w.kinds.chars().filter(c -> c == "slrcby".charAt(kind)).count();
    }

    int near(int node) {
        if (nowhere(node)) return no(-1);
        if (w.people.isEmpty()) return -9;
        return best(w.people.size(),
            i -> -Math.abs(w.at(i) / 6 - node / 6) - Math.abs(w.at(i) % 6 - node % 6));
    }

    private int[] gains(int a, int b, int n, int goes, int otherGoes) {
        Set<Integer> standing = new HashSet<>();
        if (goes == 0) standing.add(a);
        if (otherGoes == 0) standing.add(b);
        int more = w.ahead(n, standing).stream().anyMatch(then -> then.at(a) == then.at(b)) ? 2 : 0;
        return new int[] {w.visits(a, n, standing) + more, w.visits(b, n, standing) + more};
    }

    int two(int a, int b, int n) {
        if (nobody(a) || nobody(b) || a == b) return no(-1);
        if (n < 0) return no(-4);
        if (n > 30) return no(-6);
        for (int i = 0; i < 2; i++) {
            for (int j = 0; j < 2; j++) {
                int[] here = gains(a, b, n, i, j);
                if (gains(a, b, n, 1 - i, j)[0] <= here[0] && gains(a, b, n, i, 1 - j)[1] <= here[1]) return 10 * i + j;
            }
        }
        return -9;
    }

    private static BigInteger above(World then, int person, int node, int n, int t) {
        if (n == 0) return then.at(person) == node ? BigInteger.ONE : BigInteger.ZERO;
        BigInteger going = above(then.after(Set.of()), person, node, n - 1, t).multiply(BigInteger.valueOf(t - 1));
        return going.add(above(then.after(Set.of(0, 1, 2, 3)), person, node, n - 1, t));
    }

    private static long told(BigInteger above, BigInteger below, int part) {
        BigInteger by = above.gcd(below);
        return (part == 0 ? above : below).divide(by).longValueExact();
    }

    private long longNo(int number) {
        return 4000000000000000000L - no(number);
    }

    long steam(int person, int node, int n, int t, int part) {
        if (nobody(person) || nowhere(node)) return longNo(-1);
        if (n < 0 || t < 2) return longNo(-4);
        if (n > 7 || t > 20) return longNo(-6);
        if (part < 0 || part > 1) return longNo(-2);
        return told(above(w, person, node, n, t), BigInteger.valueOf(t).pow(n), part);
    }

    long mean(int part) {
        if (part < 0 || part > 1) return longNo(-2);
        return told(BigInteger.valueOf(w.allWet()), BigInteger.valueOf(30), part);
    }

    int whatIs(int node, int person, int what) {
        if (nowhere(node) || nobody(person)) return no(-1);
        if (what < 0 || what > 1) return no(-2);
        int bits = 0;
        for (int i = 0; i < (what == 0 ? 6 : 10); i++) {
            World other = w.copy();
            if (what == 0) other.kind(node, "slrcby".charAt(i));
            else other.figures[node] = i;
            List<Integer> seen = new ArrayList<>();
            for (World then : other.ahead(20)) seen.add(then.at(person));
            if (seen.subList(0, row.size()).equals(row)) bits |= 1 << i;
        }
        return bits;
    }

    int row(int v) {
        if (v < 0) return no(-4);
        if (v > 99 || row.size() == 16) return no(-6);
        row.add(v);
        return row.size();
    }

    int judge() {
        int first = -9;
        for (int i = row.size() - 1; i >= 0; i--) if (row.get(i) != w.wet[i]) first = i;
        row.clear();
        return first;
    }

    int clear() {
        int had = row.size();
        row.clear();
        return had;
    }

    private int z;

    private int draw(int m) {
        z = BigInteger.valueOf(z).multiply(BigInteger.valueOf(1664525)).add(BigInteger.valueOf(1013904223)).intValue();
        return ((z << 1) >>> 1) / 256 % m;
    }

    int lots(int n, int seed, int what) {
        if (n < 1) return no(-4);
        if (n > 20) return no(-6);
        if (what < 0 || what > 1) return no(-2);
        z = seed;
        int answer = 0;
        for (int i = 0; i < n; i++) {
            World bath = w.copy();
            for (int[] p : bath.people) {
                p[0] = draw(30);
                p[1] = draw(4);
            }
            World then = bath.then(12);
            if (what == 0) answer += then.helped() - w.helped();
            else for (int[] p : then.people) if (then.wet[p[0]] == 0) answer++;
        }
        return answer;
    }

    int image() {
        image = w.copy();
        return w.step;
    }

    int on() {
        if (image == null) return no(-3);
        w = image.copy();
        return w.step;
    }

    int count(int what) {
        switch (what) {
            case 0: return w.people.size();
            case 1: return w.step;
            case 2: return w.allWet();
            case 3: return w.helped();
            case 4:
                int bits = 0;
                for (int i = 0; i < 30; i++) if (w.wet[i] == 0) bits += 1 << i;
                return bits;
            case 5: return Arrays.stream(w.figures).sum();
            case 6: return row.size();
            case 7: return letters.length();
            default: return what >= 11 && what <= 16 ? refusals[what - 10] : -9;
        }
    }

    // ---- the runs ----

    private static final Random LOT = new Random(20261118);

    /** A number from least to greatest, seldom a little or far outside of it. */
    private static int some(int least, int greatest) {
        int lot = LOT.nextInt(60);
        if (lot == 0) return least - 1;
        if (lot == 1) return greatest + 1;
        if (lot == 2) return LOT.nextInt();
        if (lot == 3) return LOT.nextBoolean() ? least : greatest;
        return least + LOT.nextInt(greatest - least + 1);
    }

    private int someone() {
        int n = w.people.size();
        return n == 0 ? LOT.nextInt(2) : some(0, n - 1);
    }

    private static String digits(int v, int n) {
        String all = "00" + v;
        return all.substring(all.length() - n);
    }

    private static String statement() {
        int number = LOT.nextInt(40) == 0 ? LOT.nextInt(100) : LOT.nextInt(30);
        String node = digits(number, 2);
        int way = LOT.nextInt(30) == 0 ? LOT.nextInt(10) : LOT.nextInt(4);
        int person = LOT.nextInt(12) == 0 ? LOT.nextInt(10) : LOT.nextInt(2);
        switch (LOT.nextInt(7)) {
            case 0:
            case 1: return "n" + node + "slrcby".charAt(LOT.nextInt(6)) + LOT.nextInt(10) + ";";
            case 2: return "w" + node + LOT.nextInt(LOT.nextBoolean() ? 3 : 10) + ";";
            case 3: return "p" + node + way + ";";
            case 4: return "h" + person + way + ";";
            case 5: return "a" + person + node + ";";
            default: return "s" + digits(LOT.nextInt(20) == 0 ? LOT.nextInt(100) : 1 + LOT.nextInt(9), 2) + ";";
        }
    }

    private static String text() {
        StringBuilder b = new StringBuilder();
        int n = LOT.nextInt(8);
        for (int i = 0; i < n; i++) b.append(statement());
        if (b.length() > 0 && LOT.nextInt(5) == 0) b.setCharAt(LOT.nextInt(b.length()), (char) LOT.nextInt(256));
        if (b.length() > 0 && LOT.nextInt(8) == 0) b.setLength(LOT.nextInt(b.length()));
        if (LOT.nextInt(60) == 0) for (int i = 0; i < 20; i++) b.append(statement());
        return b.toString();
    }

    private void same(int run, String call, long got, long want) {
        if (got == want || wrong > 40) return;
        wrong++;
        System.out.println("run " + run + ": " + call + " answered " + got + ", the model " + want);
    }

    private int tells(GroutingIsFollowed x, int run) {
        String text = text();
        for (char c : text.toCharArray()) same(run, "letter", x.letter(c), letter(c));
        same(run, "wall of " + text, x.wall(), wall());
        return text.length() + 1;
    }

    private void changes(GroutingIsFollowed x, int run) {
        int a = someone();
        int node = some(0, 29);
        int v = some(0, 9);
        int way = some(0, 3);
        switch (LOT.nextInt(14)) {
            case 0: same(run, "letter", x.letter(v), letter(v)); break;
            case 1:
                int kind = some(0, 5);
                same(run, "lays", x.lays(node, kind, v), lays(node, kind, v));
                break;
            case 2:
            case 3:
                int wet = LOT.nextBoolean() ? some(0, 2) : v;
                same(run, "wets", x.wets(node, wet), wets(node, wet));
                break;
            case 4:
            case 5: same(run, "comesIn", x.comesIn(node, way), comesIn(node, way)); break;
            case 6: same(run, "heads", x.heads(a, way), heads(a, way)); break;
            case 7: same(run, "stands", x.stands(a, node), stands(a, node)); break;
            case 8:
                int n = some(1, LOT.nextInt(3) == 0 ? 60 : 5);
                same(run, "steps " + n, x.steps(n), steps(n));
                break;
            case 9:
            case 10:
                int number = LOT.nextInt(3) == 0 ? some(0, 99) : w.people.isEmpty() ? 9 : w.then(row.size()).at(0);
                same(run, "row", x.row(number), row(number));
                break;
            case 11: if (LOT.nextInt(3) == 0) same(run, "judge", x.judge(), judge()); break;
            case 12: if (LOT.nextInt(3) == 0) same(run, "clear", x.clear(), clear()); break;
            default:
                if (LOT.nextBoolean()) same(run, "image", x.image(), image());
                else if (LOT.nextBoolean()) same(run, "on", x.on(), on());
        }
    }

    private void looks(GroutingIsFollowed x, int run) {
        int a = someone();
        int b = someone();
        int node = some(0, 29);
        int other = some(0, 29);
        int n = some(0, 60);
        int what = some(0, 1);
        switch (LOT.nextInt(12)) {
            case 0: same(run, "node", x.node(node, what + 1), node(node, what + 1)); break;
            case 1: same(run, "person", x.person(a, 2 + what), person(a, 2 + what)); break;
            case 2: same(run, "personThen", x.personThen(a, n, what + 1), personThen(a, n, what + 1)); break;
            case 3: same(run, "wetThen", x.wetThen(node, n), wetThen(node, n)); break;
            case 4: same(run, "comes", x.comes(a, node), comes(a, node)); break;
            case 5: same(run, "visits", x.visits(a, n), visits(a, n)); break;
            case 6: same(run, "stops", x.stops(a), stops(a)); break;
            case 7: same(run, "meets", x.meets(a, b), meets(a, b)); break;
            case 8: same(run, "round", x.round(a), round(a)); break;
            case 9: same(run, "way", x.way(node, other, what), way(node, other, what)); break;
            case 10: same(run, "kinds", x.kinds(b), kinds(b)); break;
            default: same(run, "near", x.near(node), near(node));
        }
    }

    private void weighs(GroutingIsFollowed x, int run) {
        int a = someone();
        int b = someone();
        int node = w.people.isEmpty() ? some(0, 29) : w.then(LOT.nextInt(9)).at(0);
        int n = some(0, 30);
        int what = some(0, 1);
        int seven = some(0, 7);
        int t = some(2, 20);
        switch (LOT.nextInt(12)) {
            case 0: same(run, "begin", x.begin(a, n, what), begin(a, n, what)); break;
            case 1: same(run, "head", x.head(a, node), head(a, node)); break;
            case 2: same(run, "damp", x.damp(a, n), damp(a, n)); break;
            case 3: same(run, "bestKind", x.bestKind(node, a, n), bestKind(node, a, n)); break;
            case 4: same(run, "dry", x.dry(seven), dry(seven)); break;
            case 5:
            case 6: same(run, "two", x.two(a, b, n / 3), two(a, b, n / 3)); break;
            case 7: same(run, "steam", x.steam(a, node, seven, t, what), steam(a, node, seven, t, what)); break;
            case 8: same(run, "mean", x.mean(what), mean(what)); break;
            case 9: same(run, "whatIs", x.whatIs(node, a, what), whatIs(node, a, what)); break;
            case 10:
                int baths = some(1, 20);
                same(run, "lots", x.lots(baths, t * n, what), lots(baths, t * n, what));
                break;
            default:
                int which = some(0, 17);
                same(run, "count", x.count(which), count(which));
        }
    }

    private void all(GroutingIsFollowed x, int run) {
        for (int node = 0; node < 30; node++) {
            for (int what = 0; what < 3; what++) same(run, "node at the end", x.node(node, what), node(node, what));
        }
        for (int p = 0; p < 4; p++) {
            for (int what = 0; what < 4; what++) same(run, "person at the end", x.person(p, what), person(p, what));
        }
        for (int what = 0; what < 18; what++) same(run, "count at the end", x.count(what), count(what));
    }

    public static void main(String[] args) {
        for (int run = 0; run < 1200; run++) {
            AgainstAModelTest model = new AgainstAModelTest();
            GroutingIsFollowed x = new GroutingIsFollowed();
            int calls = 0;
            while (calls < 250) {
                if (LOT.nextInt(12) == 0) calls += model.tells(x, run);
                else {
                    int lot = LOT.nextInt(3);
                    if (lot == 0) model.changes(x, run);
                    else if (lot == 1) model.looks(x, run);
                    else model.weighs(x, run);
                    calls++;
                }
            }
            model.all(x, run);
        }
        System.out.println(wrong == 0 ? "model: all answers are the same" : wrong + " answers are not the model's");
        if (wrong != 0) System.exit(1);
    }
}
