/** Every boundary that promises 12 to 23, and of the terms IN MIND, FAR .. FEWEST, name: a test for each. */
public final class BoundaryInMindTest {
    /** One goes round in 61 STEPS, from behind 1 on or from now on. */
    private static final String ROUND_60 = "n13b2;n25r0;n07b2;p153;";
    private static final String ROUND_61 = "n10b0;n07l3;n11r1;p292;";

    public static void main(String[] args) {
        personThen();
        wetThen();
        comes();
        visits();
        stops();
        meets();
        round();
        far();
        fewest();
        begin();
        head();
        damp();
        bestKind();
        Bench.end("boundaries of what is in mind");
    }

    private static void test(String title, Runnable body) {
        Bench.test(title, body);
    }

    private static void due(String call, long got, long want) {
        Bench.due(call, got, want);
    }

    private static GroutingIsFollowed fresh() {
        return Bench.fresh();
    }

    private static GroutingIsFollowed told(String text) {
        return Bench.told(text);
    }

    private static GroutingIsFollowed atStep(int step, String text) {
        GroutingIsFollowed x = Bench.atStep(step);
        due("wall of " + text, Math.min(0, Bench.tell(x, text)), 0);
        return x;
    }

    private static final int[] NOBODY = {-1, 1, 2, 3, 4, Bench.LEAST, Bench.GREATEST};
    private static final int[] NO_NODE = {-1, 30, Bench.LEAST, Bench.GREATEST};

    // ---- 12, 13 ----

    private static void personThen() {
        test("12: 0 STEPS on: as now", () -> {
            GroutingIsFollowed x = told("p050;s03;");
            for (int what = 0; what < 3; what++) due("personThen(0, 0, " + what + ")", x.personThen(0, 0, what), x.person(0, what));
        });
        test("12: 60 STEPS on, the most", () -> {
            GroutingIsFollowed x = told("p050;p001;n14r0;p142;");
            int[] then = new int[9];
            for (int i = 0; i < 9; i++) then[i] = x.personThen(i / 3, 60, i % 3);
            x.steps(60);
            for (int i = 0; i < 9; i++) due("person(" + i / 3 + ", " + i % 3 + ")", x.person(i / 3, i % 3), then[i]);
        });
        test("12: STEPS below 0", () -> {
            GroutingIsFollowed x = told("p050;");
            due("-1", x.personThen(0, -1, 0), -4);
            due("least", x.personThen(0, Bench.LEAST, 0), -4);
            Bench.refused(x, 0, 0, 0, 2, 0);
        });
        test("12: STEPS above 60", () -> {
            GroutingIsFollowed x = told("p050;");
            due("61", x.personThen(0, 61, 0), -6);
            due("greatest", x.personThen(0, Bench.GREATEST, 0), -6);
            Bench.refused(x, 0, 0, 0, 0, 2);
        });
        test("12: what 0 .. 2, no other", () -> {
            GroutingIsFollowed x = told("p050;");
            for (int what : new int[] {-1, 3, Bench.LEAST, Bench.GREATEST}) due("what " + what, x.personThen(0, 0, what), -2);
            Bench.refused(x, 0, 4, 0, 0, 0);
        });
        test("12: nobody", () -> {
            GroutingIsFollowed x = told("p050;");
            for (int person : NOBODY) due("personThen(" + person + ")", x.personThen(person, 0, 0), -1);
            Bench.refused(x, 7, 0, 0, 0, 0);
        });
        test("12: number 3, the last of 4", () -> {
            GroutingIsFollowed x = told("p000;p000;p000;p142;");
            due("personThen(3, 1, 0)", x.personThen(3, 1, 0), 20);
            due("personThen(4, 1, 0)", x.personThen(4, 1, 0), -1);
        });
        test("12: STEP may pass 999 in mind", () -> {
            GroutingIsFollowed x = atStep(999, "p001;");
            due("1 STEP on", x.personThen(0, 1, 0), 1);
            due("60 STEPS on", x.personThen(0, 60, 2), 10);
            due("STEP", x.count(1), 999);
            due("a STEP goes by", x.steps(1), -6);
        });
        test("12: STEP is 1000 behind 999, not 0 or 999: CHOICE and BEND", () -> {
            GroutingIsFollowed x = atStep(999, "n14c2;p141;n07b0;p071;n15c0;");
            due("CHOICE in STEP 1000", x.personThen(0, 1, 0), 20);
            due("BEND in STEP 1000", x.personThen(1, 1, 0), 8);
            x = atStep(997, "n15c2;n16c2;n17c2;p141;");
            due("CHOICE in STEP 1000", x.personThen(0, 3, 0), 22);
        });
        test("12: HELPED 99 at most in mind, too", () -> {
            GroutingIsFollowed x = told("n00y0;p002;s60;s09;");
            due("30 on", x.personThen(0, 30, 2), 99);
            due("29 on", x.personThen(0, 29, 2), 98);
            due("60 on", x.personThen(0, 60, 2), 99);
            due("now", x.person(0, 2), 69);
        });
        test("12: nothing is another behind it", () -> {
            GroutingIsFollowed x = told("p050;p141;w153;n16l0;s07;");
            String before = Bench.state(x);
            for (int n = 0; n <= 60; n += 20) x.personThen(1, n, 0);
            Bench.due("state", Bench.state(x), before);
        });
    }

    private static void wetThen() {
        test("13: 0 STEPS on: as now", () -> {
            GroutingIsFollowed x = told("w294;");
            due("wetThen(29, 0)", x.wetThen(29, 0), 4);
            due("wetThen(0, 0)", x.wetThen(0, 0), 9);
        });
        test("13: 60 STEPS on, the most", () -> {
            GroutingIsFollowed x = told("p001;");
            due("wetThen(1, 60), left in STEPS 2, 14, 26, 38, 50", x.wetThen(1, 60), 4);
            due("wetThen(2, 60), left in STEPS 10, 22, 34, 46, 58", x.wetThen(2, 60), 4);
            due("wetThen(0, 60), never in an even one", x.wetThen(0, 60), 9);
        });
        test("13: STEPS below 0", () -> {
            GroutingIsFollowed x = fresh();
            due("-1", x.wetThen(0, -1), -4);
            due("least", x.wetThen(0, Bench.LEAST), -4);
            Bench.refused(x, 0, 0, 0, 2, 0);
        });
        test("13: STEPS above 60", () -> {
            GroutingIsFollowed x = fresh();
            due("61", x.wetThen(0, 61), -6);
            due("greatest", x.wetThen(0, Bench.GREATEST), -6);
            Bench.refused(x, 0, 0, 0, 0, 2);
        });
        test("13: no such NODE", () -> {
            GroutingIsFollowed x = fresh();
            for (int node : NO_NODE) due("wetThen(" + node + ")", x.wetThen(node, 0), -1);
            Bench.refused(x, 4, 0, 0, 0, 0);
        });
        test("13: STEP may pass 999 in mind", () -> {
            GroutingIsFollowed x = atStep(999, "p001;");
            due("wetThen(0, 1), left in STEP 1000", x.wetThen(0, 1), 8);
            due("wetThen(1, 2), left in STEP 1001", x.wetThen(1, 2), 9);
            due("wetThen(2, 3), left in STEP 1002", x.wetThen(2, 3), 8);
            due("wetThen(0, 60)", x.wetThen(0, 60), 4);
        });
        test("13: WET is not below 0", () -> {
            GroutingIsFollowed x = told("w011;p001;");
            due("wetThen(1, 2)", x.wetThen(1, 2), 0);
            due("wetThen(1, 60)", x.wetThen(1, 60), 0);
        });
        test("13: nothing is another behind it", () -> {
            GroutingIsFollowed x = told("p001;");
            x.wetThen(1, 60);
            due("node(1, 2)", x.node(1, 2), 9);
            due("count(2)", x.count(2), 270);
            due("STEP", x.count(1), 0);
        });
    }

    // ---- 14 .. 18 ----

    private static void comes() {
        test("14: behind 0 STEPS one is where he is", () -> {
            due("comes(0, 14)", told("p141;").comes(0, 14), 0);
            due("of WET 0", told("p141;w140;").comes(0, 14), 0);
        });
        test("14: behind 1 STEP", () -> due("comes(0, 15)", told("p141;").comes(0, 15), 1));
        test("14: behind 60 STEPS, the most", () -> {
            GroutingIsFollowed x = told("n21c2;n23l2;n05r3;p053;p013;");
            due("first there", Bench.first(0, 60, n -> x.personThen(0, n, 0) == 9), 60);
            due("comes(0, 9)", x.comes(0, 9), 60);
        });
        test("14: behind 61 STEPS is -9", () -> {
            GroutingIsFollowed x = told("n06r1;n07b2;n12l3;p002;p152;");
            GroutingIsFollowed y = told("n06r1;n07b2;n12l3;p002;p152;s01;");
            due("one STEP later it is 60", y.personThen(0, 60, 0), 11);
            due("first there", Bench.first(0, 60, n -> x.personThen(0, n, 0) == 11), -9);
            due("comes(0, 11)", x.comes(0, 11), -9);
            due("comes(0, 11) one STEP later", y.comes(0, 11), 60);
        });
        test("14: first, of several times", () -> due("comes(0, 16), behind 2 and 5", told("p141;").comes(0, 16), 2));
        test("14: never", () -> due("comes(0, 20)", told("p141;").comes(0, 20), -9));
        test("14: from a NODE WET 0 never", () -> due("comes(0, 15)", told("p141;w140;").comes(0, 15), -9));
        test("14: STEP may pass 999", () -> {
            due("comes(0, 17)", atStep(999, "p141;").comes(0, 17), 3);
            due("by CHOICE in STEP 1000", atStep(999, "p141;n14c2;").comes(0, 20), 1);
        });
        test("14: nobody", () -> {
            GroutingIsFollowed x = told("p141;");
            for (int person : NOBODY) due("comes(" + person + ", 0)", x.comes(person, 0), -1);
            Bench.refused(x, 7, 0, 0, 0, 0);
        });
        test("14: no such NODE", () -> {
            GroutingIsFollowed x = told("p141;");
            for (int node : NO_NODE) due("comes(0, " + node + ")", x.comes(0, node), -1);
            Bench.refused(x, 4, 0, 0, 0, 0);
        });
        test("14: NODE 0 and NODE 29", () -> {
            due("comes(0, 0)", told("p013;").comes(0, 0), 1);
            due("comes(0, 29)", told("p281;").comes(0, 29), 1);
        });
    }

    private static void visits() {
        test("15: in 0 STEPS it is 1", () -> {
            due("visits(0, 0)", told("p141;").visits(0, 0), 1);
            due("visits(0, 0) of WET 0", told("p141;w140;").visits(0, 0), 1);
        });
        test("15: 0, 1, .. n STEPS: both where he is and where he comes", () -> due("visits(0, 1)", told("p141;").visits(0, 1), 2));
        test("15: a NODE twice is one", () -> {
            GroutingIsFollowed x = told("p001;");
            due("visits(0, 5)", x.visits(0, 5), 6);
            due("visits(0, 6), at the edge", x.visits(0, 6), 6);
            due("visits(0, 7), back", x.visits(0, 7), 6);
            due("visits(0, 60)", x.visits(0, 60), 6);
        });
        test("15: in 60 STEPS, the most: the last of them counts", () -> {
            GroutingIsFollowed x = told("n21c2;n23l2;n05r3;p053;p013;");
            due("visits(0, 60)", x.visits(0, 60), x.visits(0, 59) + 1);
        });
        test("15: AT a NODE WET 0 it stays 1", () -> due("visits(0, 60)", told("p141;w140;").visits(0, 60), 1));
        test("15: NODES 0 and 29 count", () -> {
            due("visits(0, 1)", told("p013;").visits(0, 1), 2);
            due("visits(0, 1)", told("p281;").visits(0, 1), 2);
        });
        test("15: STEPS below 0", () -> {
            GroutingIsFollowed x = told("p141;");
            due("-1", x.visits(0, -1), -4);
            due("least", x.visits(0, Bench.LEAST), -4);
            Bench.refused(x, 0, 0, 0, 2, 0);
        });
        test("15: STEPS above 60", () -> {
            GroutingIsFollowed x = told("p141;");
            due("61", x.visits(0, 61), -6);
            due("greatest", x.visits(0, Bench.GREATEST), -6);
            Bench.refused(x, 0, 0, 0, 0, 2);
        });
        test("15: nobody", () -> {
            GroutingIsFollowed x = told("p141;");
            for (int person : NOBODY) due("visits(" + person + ", 0)", x.visits(person, 0), -1);
            Bench.refused(x, 7, 0, 0, 0, 0);
        });
        test("15: STEP may pass 999", () -> due("visits(0, 60)", atStep(999, "p141;").visits(0, 60), 6));
    }

    private static void stops() {
        test("16: behind 0 STEPS: WET 0 now", () -> due("stops(0)", told("p141;w140;").stops(0), 0));
        test("16: WET 1 is not WET 0: he comes back, when it is dry", () -> {
            GroutingIsFollowed x = told("p141;w141;");
            due("wetThen(14, 7)", x.wetThen(14, 7), 1);
            due("wetThen(14, 8)", x.wetThen(14, 8), 0);
            due("stops(0)", x.stops(0), 12);
        });
        test("16: behind 1 STEP", () -> due("stops(0)", told("p141;w150;").stops(0), 1));
        test("16: behind 60 STEPS, the most", () -> {
            GroutingIsFollowed x = told("n26y0;p293;s01;");
            due("first", Bench.first(0, 60, n -> x.wetThen(x.personThen(0, n, 0), n) == 0), 60);
            due("stops(0)", x.stops(0), 60);
        });
        test("16: behind 61 STEPS is -9", () -> {
            GroutingIsFollowed x = told("n26y0;p293;");
            due("first", Bench.first(0, 60, n -> x.wetThen(x.personThen(0, n, 0), n) == 0), -9);
            due("stops(0)", x.stops(0), -9);
        });
        test("16: never on a wall where no NODE dries under him", () -> due("stops(0)", told("n00y0;p002;").stops(0), -9));
        test("16: dried by another while he is there", () -> {
            GroutingIsFollowed x = told("w141;s01;n14l0;p141;p141;");
            due("stops(1)", x.stops(1), 1);
            due("stops(0)", x.stops(0), Bench.first(0, 60, n -> x.wetThen(x.personThen(0, n, 0), n) == 0));
        });
        test("16: STEP may pass 999", () -> due("stops(0)", atStep(999, "p141;w150;").stops(0), 1));
        test("16: nobody", () -> {
            GroutingIsFollowed x = told("p141;");
            for (int person : NOBODY) due("stops(" + person + ")", x.stops(person), -1);
            Bench.refused(x, 7, 0, 0, 0, 0);
        });
    }

    private static void meets() {
        test("17: behind 0 STEPS: AT one NODE now", () -> {
            due("meets(0, 1)", told("p141;p143;").meets(0, 1), 0);
            due("meets(0, 1) of WET 0", told("p141;p143;w140;").meets(0, 1), 0);
        });
        test("17: behind 1 STEP", () -> due("meets(0, 1)", told("p131;p153;").meets(0, 1), 1));
        test("17: behind 60 STEPS, the most", () -> {
            GroutingIsFollowed x = told("n01l2;p011;p193;");
            due("first", Bench.first(0, 60, n -> x.personThen(0, n, 0) == x.personThen(1, n, 0)), 60);
            due("meets(0, 1)", x.meets(0, 1), 60);
            due("meets(1, 0)", x.meets(1, 0), 60);
        });
        test("17: behind 61 STEPS is -9", () -> {
            GroutingIsFollowed x = told("n18r3;p182;p073;");
            GroutingIsFollowed y = told("n18r3;p182;p073;s01;");
            due("one STEP later they are", y.personThen(0, 60, 0), y.personThen(1, 60, 0));
            due("meets(0, 1) one STEP later", y.meets(0, 1), 60);
            due("first", Bench.first(0, 60, n -> x.personThen(0, n, 0) == x.personThen(1, n, 0)), -9);
            due("meets(0, 1)", x.meets(0, 1), -9);
        });
        test("17: past one another is not AT one NODE", () -> due("meets(0, 1)", told("p141;p153;").meets(0, 1), -9));
        test("17: never, both at NODES WET 0", () -> due("meets(0, 1)", told("p141;p153;w140;w150;").meets(0, 1), -9));
        test("17: one twice", () -> {
            GroutingIsFollowed x = told("p141;p153;");
            due("meets(0, 0)", x.meets(0, 0), -1);
            due("meets(1, 1)", x.meets(1, 1), -1);
            due("meets(2, 2)", x.meets(2, 2), -1);
            Bench.refused(x, 3, 0, 0, 0, 0);
        });
        test("17: nobody, either", () -> {
            GroutingIsFollowed x = told("p141;");
            for (int person : NOBODY) {
                due("meets(" + person + ", 0)", x.meets(person, 0), -1);
                due("meets(0, " + person + ")", x.meets(0, person), -1);
            }
            Bench.refused(x, 14, 0, 0, 0, 0);
        });
        test("17: numbers 2 and 3, the last of 4", () -> {
            GroutingIsFollowed x = told("p000;p010;p131;p153;");
            due("meets(3, 2)", x.meets(3, 2), 1);
            due("meets(3, 4)", x.meets(3, 4), -1);
        });
        test("17: STEP may pass 999", () -> due("meets(0, 1)", atStep(999, "p121;p163;").meets(0, 1), 2));
    }

    private static void round() {
        test("18: the least n is 1: AT a NODE WET 0 one is the same behind 1", () -> due("round(0)", told("p141;w140;").round(0), 1));
        test("18: to and fro by YES ones is 2", () -> due("round(0)", told("n14y0;n15y0;p143;").round(0), 2));
        test("18: the same NODE with another HEADING is not round", () -> {
            GroutingIsFollowed x = told("p051;");
            due("there behind 1", x.personThen(0, 1, 0), 5);
            due("round(0)", x.round(0), 12);
        });
        test("18: the same HEADING at another NODE is not round", () -> {
            GroutingIsFollowed x = told("p001;");
            due("HEADING behind 1", x.personThen(0, 1, 1), 1);
            due("round(0)", x.round(0), 12);
        });
        test("18: behind 60 STEPS, the most", () -> {
            GroutingIsFollowed x = told(ROUND_60);
            due("first", Bench.first(1, 60, n -> x.personThen(0, n, 0) == 15 && x.personThen(0, n, 1) == 3), 60);
            due("round(0)", x.round(0), 60);
        });
        test("18: behind 61 STEPS is -9", () -> {
            GroutingIsFollowed x = told(ROUND_61);
            GroutingIsFollowed y = told(ROUND_61 + "s01;");
            due("NODE behind 61", y.personThen(0, 60, 0), 29);
            due("HEADING behind 61", y.personThen(0, 60, 1), 2);
            due("first", Bench.first(1, 60, n -> x.personThen(0, n, 0) == 29 && x.personThen(0, n, 1) == 2), -9);
            due("round(0)", x.round(0), -9);
        });
        test("18: never, one gets stuck elsewhere", () -> due("round(0)", told("p141;w150;").round(0), -9));
        test("18: WET and STEP need not be the same", () -> {
            GroutingIsFollowed x = told("p141;s02;");
            due("round(0)", x.round(0), 12);
        });
        test("18: STEP may pass 999", () -> due("round(0)", atStep(999, "p141;").round(0), 12));
        test("18: nobody", () -> {
            GroutingIsFollowed x = told("p141;");
            for (int person : NOBODY) due("round(" + person + ")", x.round(person), -1);
            Bench.refused(x, 7, 0, 0, 0, 0);
        });
    }

    // ---- 19 ----

    private static void far() {
        test("19: FAR of a NODE to itself is 0", () -> {
            due("way(0, 0, 0)", fresh().way(0, 0, 0), 0);
            due("way(29, 29, 0)", fresh().way(29, 29, 0), 0);
            due("way(7, 7, 0) of WET 0", told("w070;").way(7, 7, 0), 0);
        });
        test("19: FAR to the next NODE is 1, each WAY", () -> {
            for (int node : new int[] {8, 15, 20, 13}) due("way(14, " + node + ", 0)", fresh().way(14, node, 0), 1);
        });
        test("19: FAR from corner to corner", () -> {
            due("way(0, 29, 0)", fresh().way(0, 29, 0), 9);
            due("way(29, 0, 0)", fresh().way(29, 0, 0), 9);
            due("way(5, 24, 0)", fresh().way(5, 24, 0), 9);
        });
        test("19: FAR goes not over the edge", () -> {
            due("way(5, 6, 0)", fresh().way(5, 6, 0), 6);
            due("way(6, 5, 0)", fresh().way(6, 5, 0), 6);
            due("way(0, 24, 0)", fresh().way(0, 24, 0), 4);
            due("way(0, 5, 0)", fresh().way(0, 5, 0), 5);
        });
        test("19: FAR: the first one must be WET above 0, too", () -> {
            due("WET 0", told("w140;").way(14, 15, 0), -9);
            due("WET 1", told("w141;").way(14, 15, 0), 1);
        });
        test("19: FAR: the last no matter", () -> due("way(14, 15, 0)", told("w150;").way(14, 15, 0), 1));
        test("19: FAR: over a NODE WET 1, not over one WET 0", () -> {
            due("WET 1", told("w151;").way(14, 16, 0), 2);
            due("WET 0", told("w150;").way(14, 16, 0), 4);
        });
        test("19: FAR: no way is -9", () -> {
            GroutingIsFollowed x = told("w010;w060;");
            due("way(0, 29, 0)", x.way(0, 29, 0), -9);
            due("way(29, 0, 0)", x.way(29, 0, 0), -9);
            due("way(0, 6, 0)", x.way(0, 6, 0), 1);
        });
        test("19: FAR: the longest way by a wall of WET 0", () -> {
            GroutingIsFollowed x = told("w060;w070;w080;w090;w100;w190;w200;w210;w220;w230;");
            due("way(0, 29, 0)", x.way(0, 29, 0), 19);
            due("way(29, 0, 0)", x.way(29, 0, 0), 19);
            due("way(0, 29, 1)", x.way(0, 29, 1), 0);
        });
        test("19: FAR: any WAY, whatever the KINDS", () -> {
            GroutingIsFollowed x = told("n00y0;n01y0;n02l0;n03b0;");
            due("way(0, 4, 0)", x.way(0, 4, 0), 4);
        });
        test("19: no such NODE, either", () -> {
            GroutingIsFollowed x = fresh();
            for (int node : NO_NODE) {
                due("way(" + node + ", 0, 0)", x.way(node, 0, 0), -1);
                due("way(0, " + node + ", 1)", x.way(0, node, 1), -1);
            }
            Bench.refused(x, 8, 0, 0, 0, 0);
        });
        test("19: what 0 and 1, no other", () -> {
            GroutingIsFollowed x = fresh();
            for (int what : new int[] {-1, 2, Bench.LEAST, Bench.GREATEST}) due("what " + what, x.way(0, 0, what), -2);
            Bench.refused(x, 0, 4, 0, 0, 0);
        });
    }

    private static void fewest() {
        test("19: FEWEST: 0 to itself, of WET 0, too", () -> {
            due("way(14, 14, 1)", fresh().way(14, 14, 1), 0);
            due("way(14, 14, 1) of WET 0", told("w140;").way(14, 14, 1), 0);
        });
        test("19: FEWEST: the first is left, the last is not", () -> {
            due("the first WET 0", told("w140;").way(14, 15, 1), 1);
            due("the last WET 0", told("w150;").way(14, 15, 1), 0);
            due("both", told("w140;w150;").way(14, 15, 1), 1);
        });
        test("19: FEWEST: all WET is 0", () -> due("way(0, 29, 1)", fresh().way(0, 29, 1), 0));
        test("19: FEWEST: all WET 0 is as far as rows and columns", () -> {
            GroutingIsFollowed x = fresh();
            Bench.allWet(x, 0);
            due("way(0, 29, 1)", x.way(0, 29, 1), 9);
            due("way(29, 0, 1)", x.way(29, 0, 1), 9);
            due("way(5, 6, 1)", x.way(5, 6, 1), 6);
            due("way(0, 0, 1)", x.way(0, 0, 1), 0);
        });
        test("19: FEWEST: WET 1 is not WET 0", () -> {
            GroutingIsFollowed x = fresh();
            Bench.allWet(x, 1);
            due("way(0, 29, 1)", x.way(0, 29, 1), 0);
        });
        test("19: FEWEST: a long way of none before a short one of one", () -> due("way(14, 16, 1)", told("w150;").way(14, 16, 1), 0));
        test("19: FEWEST: where FAR has no way", () -> {
            GroutingIsFollowed x = told("w010;w060;");
            due("way(0, 29, 1)", x.way(0, 29, 1), 1);
            due("way(29, 0, 1)", x.way(29, 0, 1), 1);
        });
        test("19: FEWEST: two walls of WET 0", () -> {
            GroutingIsFollowed x = told("w010;w070;w130;w190;w250;w040;w100;w160;w220;w280;");
            due("way(0, 5, 1)", x.way(0, 5, 1), 2);
            due("way(5, 0, 1)", x.way(5, 0, 1), 2);
            due("way(0, 2, 1)", x.way(0, 2, 1), 1);
        });
    }

    // ---- 20, 21 ----

    private static void begin() {
        test("20: in 0 STEPS all are 1: the least NODE", () -> {
            GroutingIsFollowed x = told("p141;");
            due("begin(0, 0, 0)", x.begin(0, 0, 0), 0);
            due("begin(0, 0, 1)", x.begin(0, 0, 1), 1);
        });
        test("20: in 30 STEPS, the most: the last of them counts", () -> {
            GroutingIsFollowed x = told("n13b3;n25l3;w060;w051;p042;");
            due("the most from 13", from(x, 13), 15);
            due("a NODE with as many or more ahead of it", Bench.first(0, 12, node -> from(x, node) >= 15), -9);
            due("a NODE with more behind it", Bench.first(14, 29, node -> from(x, node) > 15), -9);
            due("begin(0, 30, 0)", x.begin(0, 30, 0), 13);
            due("begin(0, 30, 1)", x.begin(0, 30, 1), 15);
            due("begin(0, 29, 0)", x.begin(0, 29, 0), 1);
            due("begin(0, 29, 1)", x.begin(0, 29, 1), 14);
        });
        test("20: of several the least", () -> {
            GroutingIsFollowed x = told("p142;");
            due("begin(0, 4, 0)", x.begin(0, 4, 0), 0);
            x.wets(0, 0);
            due("begin(0, 4, 0)", x.begin(0, 4, 0), 1);
            due("begin(0, 4, 1)", x.begin(0, 4, 1), 5);
        });
        test("20: the last NODE alone is best", () -> {
            GroutingIsFollowed x = told("p143;");
            for (int node = 0; node < 29; node++) x.wets(node, 0);
            due("begin(0, 1, 0)", x.begin(0, 1, 0), 29);
            due("begin(0, 1, 1)", x.begin(0, 1, 1), 2);
        });
        test("20: all NODES WET 0: NODE 0 and 1", () -> {
            GroutingIsFollowed x = told("p143;");
            Bench.allWet(x, 0);
            due("begin(0, 30, 0)", x.begin(0, 30, 0), 0);
            due("begin(0, 30, 1)", x.begin(0, 30, 1), 1);
        });
        test("20: HEADING as now", () -> {
            GroutingIsFollowed x = told("p141;");
            due("to the right", x.begin(0, 5, 0), 0);
            x.heads(0, 3);
            due("to the left", x.begin(0, 5, 0), 5);
            x.heads(0, 0);
            due("up", x.begin(0, 4, 0), 24);
            x.heads(0, 2);
            due("down", x.begin(0, 4, 0), 0);
        });
        test("20: STEPS below 0", () -> {
            GroutingIsFollowed x = told("p141;");
            due("-1", x.begin(0, -1, 0), -4);
            due("least", x.begin(0, Bench.LEAST, 0), -4);
            Bench.refused(x, 0, 0, 0, 2, 0);
        });
        test("20: STEPS above 30", () -> {
            GroutingIsFollowed x = told("p141;");
            due("31", x.begin(0, 31, 0), -6);
            due("greatest", x.begin(0, Bench.GREATEST, 0), -6);
            Bench.refused(x, 0, 0, 0, 0, 2);
        });
        test("20: what 0 and 1, no other", () -> {
            GroutingIsFollowed x = told("p141;");
            for (int what : new int[] {-1, 2, Bench.LEAST, Bench.GREATEST}) due("what " + what, x.begin(0, 0, what), -2);
            Bench.refused(x, 0, 4, 0, 0, 0);
        });
        test("20: nobody", () -> {
            GroutingIsFollowed x = told("p141;");
            for (int person : NOBODY) due("begin(" + person + ")", x.begin(person, 0, 0), -1);
            Bench.refused(x, 7, 0, 0, 0, 0);
        });
        test("20: STEP may pass 999", () -> due("begin(0, 5, 1)", atStep(999, "p141;").begin(0, 5, 1), 6));
        test("20: where he is stays", () -> {
            GroutingIsFollowed x = told("p141;");
            x.begin(0, 30, 0);
            due("person(0, 0)", x.person(0, 0), 14);
        });
    }

    private static int from(GroutingIsFollowed x, int node) {
        int was = x.stands(0, node);
        int seen = x.visits(0, 30);
        x.stands(0, was);
        return seen;
    }

    private static void head() {
        test("21: already there: 0 by each, the least", () -> {
            due("head(0, 14)", told("p143;").head(0, 14), 0);
            due("of WET 0", told("p143;w140;").head(0, 14), 0);
        });
        test("21: each WAY, 0 and 3 the outermost", () -> {
            GroutingIsFollowed x = told("p141;");
            due("up", x.head(0, 8), 0);
            due("right", x.head(0, 15), 1);
            due("down", x.head(0, 20), 2);
            due("left", x.head(0, 13), 3);
            due("HEADING", x.person(0, 1), 1);
        });
        test("21: of several the least", () -> {
            GroutingIsFollowed x = told("n08r0;n15l0;p143;");
            due("head(0, 9), by 0 and by 1 behind 2", x.head(0, 9), 0);
        });
        test("21: a greater WAY that is sooner", () -> due("head(0, 8), by 1 sooner", told("n14r0;p140;").head(0, 8), 3));
        test("21: none within 60", () -> {
            due("head(0, 0)", told("p143;").head(0, 0), -9);
            due("of WET 0", told("p143;w140;").head(0, 13), -9);
        });
        test("21: behind 60, the most", () -> {
            GroutingIsFollowed x = told("n09l3;n06c2;n27l2;p111;w242;");
            int way = x.head(0, 12);
            due("head(0, 12)", way, 1);
            x.heads(0, way);
            due("first there", Bench.first(0, 60, n -> x.personThen(0, n, 0) == 12), 60);
        });
        test("21: behind 61 is none within 60", () -> {
            GroutingIsFollowed x = told("n21b0;n04c2;n22r2;n19r0;p053;p183;");
            due("head(0, 28)", x.head(0, 28), -9);
            int soonest = 99;
            for (int way = 0; way < 4; way++) {
                GroutingIsFollowed y = told("n21b0;n04c2;n22r2;n19r0;p053;p183;");
                y.heads(0, way);
                due("first there", Bench.first(0, 60, n -> y.personThen(0, n, 0) == 28), -9);
                y.steps(1);
                if (y.personThen(0, 60, 0) == 28) soonest = 61;
            }
            due("soonest of all", soonest, 61);
        });
        test("21: nobody", () -> {
            GroutingIsFollowed x = told("p141;");
            for (int person : NOBODY) due("head(" + person + ", 0)", x.head(person, 0), -1);
            Bench.refused(x, 7, 0, 0, 0, 0);
        });
        test("21: no such NODE", () -> {
            GroutingIsFollowed x = told("p141;");
            for (int node : NO_NODE) due("head(0, " + node + ")", x.head(0, node), -1);
            Bench.refused(x, 4, 0, 0, 0, 0);
        });
        test("21: STEP may pass 999", () -> due("head(0, 17)", atStep(999, "p140;").head(0, 17), 1));
    }

    // ---- 22, 23 ----

    private static void damp() {
        test("22: in 0 STEPS none makes more: -9", () -> due("damp(0, 0)", told("p141;w140;").damp(0, 0), -9));
        test("22: in 1 STEP the NODE where he is", () -> due("damp(0, 1)", told("p141;w140;").damp(0, 1), 14));
        test("22: in 30 STEPS, the most: the last of them counts", () -> {
            GroutingIsFollowed x = told("n06b2;n25r0;n12r2;n26y3;w170;p071;");
            GroutingIsFollowed y = told("n06b2;n25r0;n12r2;n26y3;w179;p071;");
            due("no more in 29", y.visits(0, 29), x.visits(0, 29));
            due("1 more in 30", y.visits(0, 30), x.visits(0, 30) + 1);
            due("damp(0, 29)", x.damp(0, 29), -9);
            due("damp(0, 30)", x.damp(0, 30), 17);
        });
        test("22: the NODE he stops at, no sooner than he would go on from it", () -> {
            GroutingIsFollowed x = told("p141;w160;");
            due("damp(0, 2)", x.damp(0, 2), -9);
            due("damp(0, 3)", x.damp(0, 3), 16);
        });
        test("22: no more than else is -9", () -> {
            due("all WET 9", told("p141;").damp(0, 30), -9);
            due("dry where he never comes", told("p141;w000;").damp(0, 30), -9);
        });
        test("22: NODE 0 and NODE 29", () -> {
            due("damp(0, 3)", told("p001;w000;").damp(0, 3), 0);
            due("damp(0, 3)", told("p293;w290;").damp(0, 3), 29);
        });
        test("22: of several the least", () -> {
            GroutingIsFollowed x = told("w141;w000;w110;w291;w091;w021;w121;p163;p072;p003;p140;");
            due("visits(0, 30)", x.visits(0, 30), 5);
            for (int node = 0; node < 30; node++) {
                int was = x.wets(node, 9);
                due("visits(0, 30) by " + node, Math.max(5, x.visits(0, 30)), node == 0 || node == 14 ? 6 : 5);
                x.wets(node, was);
            }
            due("damp(0, 30)", x.damp(0, 30), 0);
        });
        test("22: WET 9 now, not one more", () -> due("damp(0, 12)", told("p141;w151;").damp(0, 12), 15));
        test("22: STEPS below 0", () -> {
            GroutingIsFollowed x = told("p141;");
            due("-1", x.damp(0, -1), -4);
            due("least", x.damp(0, Bench.LEAST), -4);
            Bench.refused(x, 0, 0, 0, 2, 0);
        });
        test("22: STEPS above 30", () -> {
            GroutingIsFollowed x = told("p141;");
            due("31", x.damp(0, 31), -6);
            due("greatest", x.damp(0, Bench.GREATEST), -6);
            Bench.refused(x, 0, 0, 0, 0, 2);
        });
        test("22: nobody", () -> {
            GroutingIsFollowed x = told("p141;");
            for (int person : NOBODY) due("damp(" + person + ", 0)", x.damp(person, 0), -1);
            Bench.refused(x, 7, 0, 0, 0, 0);
        });
        test("22: STEP may pass 999", () -> due("damp(0, 5)", atStep(999, "p141;w150;").damp(0, 5), 15));
        test("22: no NODE gets WET by it", () -> {
            GroutingIsFollowed x = told("p141;w150;");
            x.damp(0, 30);
            due("node(15, 2)", x.node(15, 2), 0);
        });
    }

    private static void bestKind() {
        test("23: in 0 STEPS all are 1: the least KIND", () -> due("bestKind(14, 0, 0)", told("n14y0;p141;").bestKind(14, 0, 0), 0));
        test("23: a NODE where he never comes: the least KIND", () -> due("bestKind(0, 0, 30)", told("n00y0;p141;").bestKind(0, 0, 30), 0));
        test("23: of several the least", () -> {
            due("STRAIGHT as good as CHOICE", told("p121;n12y0;").bestKind(12, 0, 5), 0);
            due("LEFT as good as RIGHT", told("p141;w150;").bestKind(14, 0, 2), 1);
        });
        test("23: each KIND may be best, 0 and 5 the outermost", () -> {
            due("STRAIGHT", told("p001;n01y0;").bestKind(1, 0, 4), 0);
            due("LEFT", told("p141;w150;w200;w130;").bestKind(14, 0, 2), 1);
            due("RIGHT", told("p141;w150;w080;w130;").bestKind(14, 0, 2), 2);
            due("CHOICE", told("p221;w191;").bestKind(21, 0, 20), 3);
            due("BEND", told("p081;w231;").bestKind(11, 0, 20), 4);
            due("YES", told("p141;w150;w080;w200;").bestKind(14, 0, 2), 5);
        });
        test("23: FIGURE as it is, by CHOICE", () -> {
            GroutingIsFollowed x = told("s03;p140;w150;w080;w130;n14s2;w209;");
            due("CHOICE by 2 in STEP 4 goes down, as YES does", x.bestKind(14, 0, 2), 3);
            x.lays(14, 0, 1);
            due("CHOICE by 1 comes to a NODE WET 0, YES goes down", x.bestKind(14, 0, 2), 5);
        });
        test("23: in 30 STEPS, the most: the last of them counts", () -> {
            GroutingIsFollowed x = told("n18r0;n19l2;p180;p010;");
            due("STRAIGHT in 30", by(x, 0, 30), by(x, 1, 30) - 1);
            due("the KIND by which most is", Bench.most(5, kind -> by(x, kind, 30)), 1);
            due("bestKind(1, 0, 30)", x.bestKind(1, 0, 30), 1);
            due("the KIND by which most is in 29", Bench.most(5, kind -> by(x, kind, 29)), 4);
            due("bestKind(1, 0, 29)", x.bestKind(1, 0, 29), 4);
        });
        test("23: STEPS below 0", () -> {
            GroutingIsFollowed x = told("p141;");
            due("-1", x.bestKind(0, 0, -1), -4);
            due("least", x.bestKind(0, 0, Bench.LEAST), -4);
            Bench.refused(x, 0, 0, 0, 2, 0);
        });
        test("23: STEPS above 30", () -> {
            GroutingIsFollowed x = told("p141;");
            due("31", x.bestKind(0, 0, 31), -6);
            due("greatest", x.bestKind(0, 0, Bench.GREATEST), -6);
            Bench.refused(x, 0, 0, 0, 0, 2);
        });
        test("23: nobody", () -> {
            GroutingIsFollowed x = told("p141;");
            for (int person : NOBODY) due("bestKind(0, " + person + ", 0)", x.bestKind(0, person, 0), -1);
            Bench.refused(x, 7, 0, 0, 0, 0);
        });
        test("23: no such NODE", () -> {
            GroutingIsFollowed x = told("p141;");
            for (int node : NO_NODE) due("bestKind(" + node + ", 0, 0)", x.bestKind(node, 0, 0), -1);
            Bench.refused(x, 4, 0, 0, 0, 0);
        });
        test("23: STEP may pass 999", () -> due("CHOICE in STEP 1000", atStep(999, "n14s2;p140;w150;w080;w130;").bestKind(14, 0, 2), 3));
        test("23: the KIND stays as it is", () -> {
            GroutingIsFollowed x = told("n14y7;p141;");
            x.bestKind(14, 0, 30);
            due("node(14, 0)", x.node(14, 0), 5);
            due("node(14, 1)", x.node(14, 1), 7);
        });
    }

    /** VISITS of the first with another KIND of NODE 1. */
    private static int by(GroutingIsFollowed x, int kind, int n) {
        int was = x.lays(1, kind, 0);
        int seen = x.visits(0, n);
        x.lays(1, was / 10, was % 10);
        return seen;
    }
}
