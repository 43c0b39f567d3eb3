/** Every boundary that promises 4 to 11, and of the terms KINDS and A STEP, name: a test for each. */
public final class BoundaryStepsTest {
    public static void main(String[] args) {
        looksAtNodes();
        looksAtPeople();
        wayNext();
        lays();
        wets();
        comesIn();
        heads();
        stands();
        waysByKinds();
        edges();
        dryNodes();
        dryingAsTheyLeave();
        helped();
        steps();
        Bench.end("boundaries of nodes, people and steps");
    }

    private static void test(String title, Runnable body) {
        Bench.test(title, body);
    }

    private static void due(String call, long got, long want) {
        Bench.due(call, got, want);
    }

    private static GroutingIsFollowed fresh() {
        return Bench.fresh();
    }

    private static GroutingIsFollowed told(String text) {
        return Bench.told(text);
    }

    private static GroutingIsFollowed atStep(int step) {
        return Bench.atStep(step);
    }

    private static void isAt(GroutingIsFollowed x, int person, int node, int heading, int helped) {
        due("person(" + person + ", 0)", x.person(person, 0), node);
        due("person(" + person + ", 1)", x.person(person, 1), heading);
        due("person(" + person + ", 2)", x.person(person, 2), helped);
    }

    // ---- 4 ----

    private static void looksAtNodes() {
        test("4: NODE 0, the least, and 29, the greatest", () -> {
            GroutingIsFollowed x = told("n00y1;w002;n29b3;w294;");
            due("node(0, 0)", x.node(0, 0), 5);
            due("node(0, 1)", x.node(0, 1), 1);
            due("node(0, 2)", x.node(0, 2), 2);
            due("node(29, 0)", x.node(29, 0), 4);
            due("node(29, 1)", x.node(29, 1), 3);
            due("node(29, 2)", x.node(29, 2), 4);
        });
        test("4: no such NODE", () -> {
            GroutingIsFollowed x = fresh();
            for (int node : new int[] {-1, 30, Bench.LEAST, Bench.GREATEST}) due("node(" + node + ", 0)", x.node(node, 0), -1);
            Bench.refused(x, 4, 0, 0, 0, 0);
        });
        test("4: what 0 .. 2, no other", () -> {
            GroutingIsFollowed x = fresh();
            for (int what : new int[] {-1, 3, Bench.LEAST, Bench.GREATEST}) due("node(0, " + what + ")", x.node(0, what), -2);
            Bench.refused(x, 0, 4, 0, 0, 0);
        });
        test("4: each KIND has its number", () -> {
            GroutingIsFollowed x = told("n00s0;n01l0;n02r0;n03c0;n04b0;n05y0;");
            for (int kind = 0; kind < 6; kind++) due("node(" + kind + ", 0)", x.node(kind, 0), kind);
        });
    }

    // ---- 5 ----

    private static void looksAtPeople() {
        test("5: nobody there", () -> {
            GroutingIsFollowed x = fresh();
            for (int what = 0; what < 4; what++) due("person(0, " + what + ")", x.person(0, what), -1);
            due("person(-1, 0)", x.person(-1, 0), -1);
            Bench.refused(x, 5, 0, 0, 0, 0);
        });
        test("5: the last of them, not one more", () -> {
            GroutingIsFollowed x = told("p070;p081;");
            isAt(x, 1, 8, 1, 0);
            due("person(2, 0)", x.person(2, 0), -1);
        });
        test("5: number 3, the last of 4", () -> {
            GroutingIsFollowed x = told("p070;p081;p092;p103;");
            isAt(x, 3, 10, 3, 0);
            due("person(4, 0)", x.person(4, 0), -1);
            due("person(greatest, 0)", x.person(Bench.GREATEST, 0), -1);
            due("person(least, 0)", x.person(Bench.LEAST, 0), -1);
        });
        test("5: what 0 .. 3, no other", () -> {
            GroutingIsFollowed x = told("p070;");
            for (int what : new int[] {-1, 4, Bench.LEAST, Bench.GREATEST}) due("person(0, " + what + ")", x.person(0, what), -2);
            Bench.refused(x, 0, 4, 0, 0, 0);
        });
    }

    private static void wayNext() {
        test("5: the WAY is -9 at a NODE WET 0", () -> due("person(0, 3)", told("p141;w140;").person(0, 3), -9));
        test("5: the WAY at a NODE WET 1", () -> due("person(0, 3)", told("p141;w141;").person(0, 3), 1));
        test("5: the WAY over the edge is told, too", () -> {
            due("up", told("p000;").person(0, 3), 0);
            due("right", told("p291;").person(0, 3), 1);
            due("down", told("p292;").person(0, 3), 2);
            due("left", told("p003;").person(0, 3), 3);
        });
        test("5: the WAY with STEP 1 more by then: BEND", () -> {
            GroutingIsFollowed x = told("n14b0;p141;");
            due("in STEP 1", x.person(0, 3), 0);
            x = told("s01;n14b0;p141;");
            due("in STEP 2", x.person(0, 3), 1);
        });
        test("5: the WAY with STEP 1 more by then: CHOICE", () -> {
            GroutingIsFollowed x = told("s03;n14c2;p141;");
            due("in STEP 4", x.person(0, 3), 2);
            x = told("s04;n14c2;p141;");
            due("in STEP 5", x.person(0, 3), 1);
            due("in STEP 1", told("n14c2;p141;").person(0, 3), 1);
        });
        test("5: the WAY in a STEP above 999", () -> {
            GroutingIsFollowed x = atStep(999);
            Bench.tell(x, "n14c2;p141;n15b0;p151;n16s0;p161;");
            due("CHOICE in STEP 1000", x.person(0, 3), 2);
            due("BEND in STEP 1000", x.person(1, 3), 1);
            due("STRAIGHT in STEP 1000", x.person(2, 3), 1);
        });
    }

    // ---- 6 ----

    private static void lays() {
        test("6: each KIND, 0 .. 5, becomes it", () -> {
            GroutingIsFollowed x = fresh();
            int had = 0;
            for (int kind = 0; kind < 6; kind++) {
                due("lays(29, " + kind + ", 9)", x.lays(29, kind, 9), had);
                had = 10 * kind + 9;
                due("node(29, 0)", x.node(29, 0), kind);
            }
        });
        test("6: 10 times the KIND and the FIGURE it had, 0 and 59 the outermost", () -> {
            GroutingIsFollowed x = fresh();
            due("had 0", x.lays(0, 5, 9), 0);
            due("had 59", x.lays(0, 0, 0), 59);
            due("had 0", x.lays(0, 0, 9), 0);
            due("had 9", x.lays(0, 5, 0), 9);
            due("had 50", x.lays(0, 0, 0), 50);
        });
        test("6: no such NODE", () -> {
            GroutingIsFollowed x = fresh();
            for (int node : new int[] {-1, 30, Bench.LEAST, Bench.GREATEST}) due("lays(" + node + ")", x.lays(node, 0, 0), -1);
            Bench.refused(x, 4, 0, 0, 0, 0);
        });
        test("6: no such KIND", () -> {
            GroutingIsFollowed x = fresh();
            for (int kind : new int[] {-1, 6, Bench.LEAST, Bench.GREATEST}) due("lays of " + kind, x.lays(0, kind, 0), -2);
            Bench.refused(x, 0, 4, 0, 0, 0);
        });
        test("6: a FIGURE below 0", () -> {
            GroutingIsFollowed x = told("n07b5;");
            due("-1", x.lays(7, 1, -1), -4);
            due("least", x.lays(7, 1, Bench.LEAST), -4);
            due("it stays", 10 * x.node(7, 0) + x.node(7, 1), 45);
            Bench.refused(x, 0, 0, 0, 2, 0);
        });
        test("6: a FIGURE above 9", () -> {
            GroutingIsFollowed x = told("n07b5;");
            due("10", x.lays(7, 1, 10), -6);
            due("greatest", x.lays(7, 1, Bench.GREATEST), -6);
            due("it stays", 10 * x.node(7, 0) + x.node(7, 1), 45);
            Bench.refused(x, 0, 0, 0, 0, 2);
        });
        test("6: WET stays as it is", () -> {
            GroutingIsFollowed x = told("w073;");
            x.lays(7, 5, 5);
            due("node(7, 2)", x.node(7, 2), 3);
        });
    }

    // ---- 7 ----

    private static void wets() {
        test("7: WET 0, the least", () -> {
            GroutingIsFollowed x = fresh();
            due("wets(29, 0)", x.wets(29, 0), 9);
            due("node(29, 2)", x.node(29, 2), 0);
            due("the same again", x.wets(29, 0), 0);
        });
        test("7: WET 9, the greatest", () -> {
            GroutingIsFollowed x = told("w008;");
            due("wets(0, 9)", x.wets(0, 9), 8);
            due("node(0, 2)", x.node(0, 2), 9);
        });
        test("7: WET below 0", () -> {
            GroutingIsFollowed x = told("w074;");
            due("-1", x.wets(7, -1), -4);
            due("least", x.wets(7, Bench.LEAST), -4);
            due("it stays", x.node(7, 2), 4);
            Bench.refused(x, 0, 0, 0, 2, 0);
        });
        test("7: WET above 9", () -> {
            GroutingIsFollowed x = told("w074;");
            due("10", x.wets(7, 10), -6);
            due("greatest", x.wets(7, Bench.GREATEST), -6);
            due("it stays", x.node(7, 2), 4);
            Bench.refused(x, 0, 0, 0, 0, 2);
        });
        test("7: no such NODE", () -> {
            GroutingIsFollowed x = fresh();
            for (int node : new int[] {-1, 30, Bench.LEAST, Bench.GREATEST}) due("wets(" + node + ")", x.wets(node, 0), -1);
            due("count(2)", x.count(2), 270);
            Bench.refused(x, 4, 0, 0, 0, 0);
        });
        test("7: KIND and FIGURE stay as they are", () -> {
            GroutingIsFollowed x = told("n07c8;");
            x.wets(7, 0);
            due("node(7, 0)", x.node(7, 0), 3);
            due("node(7, 1)", x.node(7, 1), 8);
        });
    }

    // ---- 8 ----

    private static void comesIn() {
        test("8: the first is number 0", () -> due("comesIn", fresh().comesIn(29, 3), 0));
        test("8: 4 at most", () -> {
            GroutingIsFollowed x = fresh();
            for (int i = 0; i < 4; i++) due("comesIn", x.comesIn(i, i), i);
            due("a fifth", x.comesIn(0, 0), -6);
            due("PEOPLE", x.count(0), 4);
            isAt(x, 3, 3, 3, 0);
            Bench.refused(x, 0, 0, 0, 0, 1);
        });
        test("8: no such NODE", () -> {
            GroutingIsFollowed x = fresh();
            for (int node : new int[] {-1, 30, Bench.LEAST, Bench.GREATEST}) due("comesIn(" + node + ")", x.comesIn(node, 0), -1);
            due("PEOPLE", x.count(0), 0);
            Bench.refused(x, 4, 0, 0, 0, 0);
        });
        test("8: no such WAY", () -> {
            GroutingIsFollowed x = fresh();
            for (int way : new int[] {-1, 4, Bench.LEAST, Bench.GREATEST}) due("comesIn by " + way, x.comesIn(0, way), -1);
            due("PEOPLE", x.count(0), 0);
            Bench.refused(x, 4, 0, 0, 0, 0);
        });
        test("8: with 4 there, no such NODE or WAY is -1, the first that fits", () -> {
            GroutingIsFollowed x = told("p000;p000;p000;p000;");
            due("no NODE", x.comesIn(30, 0), -1);
            due("no WAY", x.comesIn(0, 4), -1);
            Bench.refused(x, 2, 0, 0, 0, 0);
        });
        test("8: neither NODE nor WAY is counted once", () -> {
            GroutingIsFollowed x = fresh();
            due("comesIn", x.comesIn(-1, -1), -1);
            Bench.refused(x, 1, 0, 0, 0, 0);
        });
        test("8: NODE 0 and 29, WAY 0 and 3, HELPED 0", () -> {
            GroutingIsFollowed x = fresh();
            x.comesIn(0, 0);
            x.comesIn(29, 3);
            isAt(x, 0, 0, 0, 0);
            isAt(x, 1, 29, 3, 0);
        });
        test("8: behind on() there is room again, and HELPED is 0", () -> {
            GroutingIsFollowed x = told("p000;p000;p000;");
            x.image();
            x.comesIn(5, 0);
            x.steps(1);
            due("HELPED", x.person(3, 2), 1);
            due("a fifth", x.comesIn(0, 0), -6);
            x.on();
            due("comesIn", x.comesIn(6, 1), 3);
            isAt(x, 3, 6, 1, 0);
        });
        test("8: AT a NODE WET 0 one comes in, too", () -> {
            GroutingIsFollowed x = told("w070;");
            due("comesIn", x.comesIn(7, 1), 0);
            isAt(x, 0, 7, 1, 0);
        });
    }

    // ---- 9, 10 ----

    private static void heads() {
        test("9: WAY 0, the least, and 3, the greatest", () -> {
            GroutingIsFollowed x = told("p141;");
            due("heads(0, 0)", x.heads(0, 0), 1);
            due("heads(0, 3)", x.heads(0, 3), 0);
            due("heads(0, 3)", x.heads(0, 3), 3);
            isAt(x, 0, 14, 3, 0);
        });
        test("9: no such WAY", () -> {
            GroutingIsFollowed x = told("p141;");
            for (int way : new int[] {-1, 4, Bench.LEAST, Bench.GREATEST}) due("heads(0, " + way + ")", x.heads(0, way), -1);
            isAt(x, 0, 14, 1, 0);
            Bench.refused(x, 4, 0, 0, 0, 0);
        });
        test("9: nobody", () -> {
            GroutingIsFollowed x = told("p141;");
            for (int person : new int[] {-1, 1, 3, 4, Bench.LEAST, Bench.GREATEST}) due("heads(" + person + ")", x.heads(person, 0), -1);
            isAt(x, 0, 14, 1, 0);
            Bench.refused(x, 6, 0, 0, 0, 0);
        });
        test("9: number 3, the last of 4", () -> {
            GroutingIsFollowed x = told("p141;p141;p141;p141;");
            due("heads(3, 2)", x.heads(3, 2), 1);
            due("heads(4, 2)", x.heads(4, 2), -1);
            due("person(3, 1)", x.person(3, 1), 2);
            due("person(2, 1)", x.person(2, 1), 1);
        });
        test("9: neither one nor WAY is counted once", () -> {
            GroutingIsFollowed x = fresh();
            due("heads", x.heads(0, 4), -1);
            Bench.refused(x, 1, 0, 0, 0, 0);
        });
    }

    private static void stands() {
        test("10: NODE 0, the least, and 29, the greatest", () -> {
            GroutingIsFollowed x = told("p141;");
            due("stands(0, 0)", x.stands(0, 0), 14);
            due("stands(0, 29)", x.stands(0, 29), 0);
            due("stands(0, 29)", x.stands(0, 29), 29);
            isAt(x, 0, 29, 1, 0);
        });
        test("10: no such NODE", () -> {
            GroutingIsFollowed x = told("p141;");
            for (int node : new int[] {-1, 30, Bench.LEAST, Bench.GREATEST}) due("stands(0, " + node + ")", x.stands(0, node), -1);
            isAt(x, 0, 14, 1, 0);
            Bench.refused(x, 4, 0, 0, 0, 0);
        });
        test("10: nobody", () -> {
            GroutingIsFollowed x = told("p141;");
            for (int person : new int[] {-1, 1, 3, 4, Bench.LEAST, Bench.GREATEST}) due("stands(" + person + ")", x.stands(person, 0), -1);
            isAt(x, 0, 14, 1, 0);
            Bench.refused(x, 6, 0, 0, 0, 0);
        });
        test("10: number 3, the last of 4", () -> {
            GroutingIsFollowed x = told("p141;p141;p141;p141;");
            due("stands(3, 2)", x.stands(3, 2), 14);
            due("stands(4, 2)", x.stands(4, 2), -1);
            due("person(3, 0)", x.person(3, 0), 2);
            due("person(2, 0)", x.person(2, 0), 14);
        });
        test("10: neither one nor NODE is counted once", () -> {
            GroutingIsFollowed x = fresh();
            due("stands", x.stands(0, 30), -1);
            Bench.refused(x, 1, 0, 0, 0, 0);
        });
        test("10: no NODE left dries by it, in an even STEP neither", () -> {
            GroutingIsFollowed x = told("p141;s02;");
            int wet = x.count(2);
            x.stands(0, 3);
            due("count(2)", x.count(2), wet);
        });
    }

    // ---- the terms: KINDS ----

    /** Where one is behind a single step from node 14, for each heading. */
    private static void fromTheMiddle(int step, int kind, int figure, int... nodes) {
        for (int heading = 0; heading < 4; heading++) {
            GroutingIsFollowed x = atStep(step - 1);
            x.lays(14, kind, figure);
            x.comesIn(14, heading);
            x.steps(1);
            due("kind " + kind + " in STEP " + step + " heading " + heading, x.person(0, 0), nodes[heading]);
        }
    }

    private static void waysByKinds() {
        test("KINDS: STRAIGHT, each HEADING", () -> fromTheMiddle(1, 0, 2, 8, 15, 20, 13));
        test("KINDS: LEFT, 1 less, of 0: 3", () -> fromTheMiddle(1, 1, 2, 13, 8, 15, 20));
        test("KINDS: RIGHT, that of a LEFT one and 2, modulo 4", () -> fromTheMiddle(1, 2, 2, 15, 20, 13, 8));
        test("KINDS: YES, HEADING and 2, modulo 4", () -> fromTheMiddle(1, 5, 1, 20, 13, 8, 15));
        test("KINDS: s l r y in even STEPS and those that 4 divides are as ever", () -> {
            for (int step : new int[] {2, 4}) {
                fromTheMiddle(step, 0, 2, 8, 15, 20, 13);
                fromTheMiddle(step, 1, 2, 13, 8, 15, 20);
                fromTheMiddle(step, 2, 2, 15, 20, 13, 8);
                fromTheMiddle(step, 5, 1, 20, 13, 8, 15);
            }
        });
        test("KINDS: CHOICE if 4 divides STEP: 4, 8, 996", () -> {
            for (int step : new int[] {4, 8, 996}) fromTheMiddle(step, 3, 2, 20, 20, 20, 20);
        });
        test("KINDS: CHOICE if 4 does not divide STEP: as a STRAIGHT one", () -> {
            for (int step : new int[] {1, 2, 3, 5, 6, 7, 999}) fromTheMiddle(step, 3, 2, 8, 15, 20, 13);
        });
        test("KINDS: CHOICE by FIGURE modulo 4: 0, 3, 4, 7, 8, 9", () -> {
            int[] nodes = {8, 15, 20, 13};
            for (int figure = 0; figure < 10; figure++) {
                int node = nodes[figure - figure / 4 * 4];
                fromTheMiddle(4, 3, figure, node, node, node, node);
            }
        });
        test("KINDS: BEND in odd STEPS as a LEFT one: 1, 3, 999", () -> {
            for (int step : new int[] {1, 3, 999}) fromTheMiddle(step, 4, 2, 13, 8, 15, 20);
        });
        test("KINDS: BEND in even STEPS as a STRAIGHT one: 2, 4, 998", () -> {
            for (int step : new int[] {2, 4, 998}) fromTheMiddle(step, 4, 2, 8, 15, 20, 13);
        });
        test("KINDS: FIGURE tells nothing but for CHOICE", () -> {
            for (int kind : new int[] {0, 1, 2, 4, 5}) {
                GroutingIsFollowed x = atStep(3);
                x.lays(14, kind, 0);
                x.comesIn(14, 1);
                int way = x.person(0, 3);
                for (int figure = 1; figure < 10; figure++) {
                    x.lays(14, kind, figure);
                    due("the WAY by " + kind + " with FIGURE " + figure, x.person(0, 3), way);
                }
            }
        });
        test("KINDS: the KIND of the NODE one leaves, not of that where one comes", () -> {
            GroutingIsFollowed x = told("n15y0;p141;s01;");
            isAt(x, 0, 15, 1, 0);
        });
    }

    // ---- the terms: A STEP ----

    private static void edges() {
        test("STEP: the edge up, all columns", () -> {
            for (int node = 0; node < 6; node++) isBack(node, 0);
        });
        test("STEP: the edge right, all rows", () -> {
            for (int node = 5; node < 30; node += 6) isBack(node, 1);
        });
        test("STEP: the edge down, all columns", () -> {
            for (int node = 24; node < 30; node++) isBack(node, 2);
        });
        test("STEP: the edge left, all rows", () -> {
            for (int node = 0; node < 30; node += 6) isBack(node, 3);
        });
        test("STEP: no edge within, each NODE and WAY", () -> {
            int[] more = {-6, 1, 6, -1};
            int many = 0;
            for (int node = 0; node < 30; node++) {
                for (int way = 0; way < 4; way++) {
                    boolean edge = way == 0 && node < 6 || way == 1 && node % 6 == 5 || way == 2 && node > 23 || way == 3 && node % 6 == 0;
                    if (edge) continue;
                    GroutingIsFollowed x = fresh();
                    x.comesIn(node, way);
                    x.steps(1);
                    isAt(x, 0, node + more[way], way, 0);
                    many++;
                }
            }
            due("ways within", many, 98);
        });
        test("STEP: at an edge against the WAY, not against the HEADING", () -> {
            GroutingIsFollowed x = told("n02l0;p021;s01;");
            isAt(x, 0, 2, 2, 1);
            x = told("n05y0;p053;s01;");
            isAt(x, 0, 5, 3, 1);
        });
        test("STEP: at an edge in an even STEP the NODE stays as WET as it is", () -> {
            GroutingIsFollowed x = told("s01;p020;s01;");
            isAt(x, 0, 2, 2, 1);
            due("count(2)", x.count(2), 270);
        });
    }

    private static void isBack(int node, int way) {
        GroutingIsFollowed x = fresh();
        x.comesIn(node, way);
        x.steps(1);
        isAt(x, 0, node, (way + 2) % 4, 1);
        due("count(2)", x.count(2), 270);
    }

    private static void dryNodes() {
        test("STEP: AT a NODE WET 0 one stays, HEADING as it is", () -> {
            for (int kind = 0; kind < 6; kind++) {
                GroutingIsFollowed x = told("w140;p143;");
                x.lays(14, kind, 1);
                x.steps(60);
                isAt(x, 0, 14, 3, 0);
            }
        });
        test("STEP: AT a NODE WET 0 at the edge one is not HELPED", () -> {
            GroutingIsFollowed x = told("w000;p000;");
            x.steps(60);
            isAt(x, 0, 0, 0, 0);
        });
        test("STEP: AT a NODE WET 1 one goes on", () -> {
            GroutingIsFollowed x = told("w141;p143;s01;");
            isAt(x, 0, 13, 3, 0);
            due("node(14, 2)", x.node(14, 2), 1);
        });
        test("STEP: one comes to a NODE WET 0 and stays from then on", () -> {
            GroutingIsFollowed x = told("w130;p143;s01;");
            isAt(x, 0, 13, 3, 0);
            x.steps(60);
            isAt(x, 0, 13, 3, 0);
            due("node(14, 2)", x.node(14, 2), 9);
        });
        test("STEP: STEP is 1 more with nobody, too", () -> {
            GroutingIsFollowed x = fresh();
            due("steps(1)", x.steps(1), 270);
            due("STEP", x.count(1), 1);
        });
    }

    private static void dryingAsTheyLeave() {
        test("STEP: the NODE he left is 1 less WET if 2 divides STEP", () -> {
            GroutingIsFollowed x = told("p141;s02;");
            due("node(14, 2)", x.node(14, 2), 9);
            due("node(15, 2)", x.node(15, 2), 8);
            due("node(16, 2)", x.node(16, 2), 9);
        });
        test("STEP: of WET 1 it is 0, not below", () -> {
            GroutingIsFollowed x = told("w141;s01;p141;p141;s01;");
            due("node(14, 2)", x.node(14, 2), 0);
            isAt(x, 0, 15, 1, 0);
            isAt(x, 1, 14, 1, 0);
        });
        test("STEP: PEOPLE by numbers: who comes first dries it for the next", () -> {
            GroutingIsFollowed x = told("w142;s01;p141;p140;p143;s01;");
            due("node(14, 2)", x.node(14, 2), 0);
            isAt(x, 0, 15, 1, 0);
            isAt(x, 1, 8, 0, 0);
            isAt(x, 2, 14, 3, 0);
        });
        test("STEP: PEOPLE by numbers: in an odd STEP none is dried for the next", () -> {
            GroutingIsFollowed x = told("w141;p141;p140;p143;s01;");
            due("node(14, 2)", x.node(14, 2), 1);
            isAt(x, 2, 13, 3, 0);
        });
        test("STEP: one who comes by a smaller number's leaving finds it drier", () -> {
            GroutingIsFollowed x = told("w141;s01;p143;p131;s01;");
            isAt(x, 0, 13, 3, 0);
            isAt(x, 1, 14, 1, 0);
            due("node(14, 2)", x.node(14, 2), 0);
            x.steps(2);
            isAt(x, 1, 14, 1, 0);
        });
        test("STEP: four leave one NODE in an even STEP", () -> {
            GroutingIsFollowed x = told("w144;s01;p140;p141;p142;p143;s01;");
            due("node(14, 2)", x.node(14, 2), 0);
            isAt(x, 3, 13, 3, 0);
        });
    }

    private static void helped() {
        test("STEP: HELPED 99 at most", () -> {
            GroutingIsFollowed x = told("n00y0;p002;s60;");
            due("behind 60", x.person(0, 2), 60);
            x.steps(38);
            due("behind 98", x.person(0, 2), 98);
            x.steps(1);
            due("behind 99", x.person(0, 2), 99);
            x.steps(1);
            due("behind 100", x.person(0, 2), 99);
            due("count(3)", x.count(3), 99);
        });
        test("STEP: HELPED 99 holds no one: he turns as ever", () -> {
            GroutingIsFollowed x = told("n00y0;p002;s60;s60;n00s0;h00;");
            due("HELPED", x.person(0, 2), 99);
            x.steps(1);
            isAt(x, 0, 0, 2, 99);
            x.steps(1);
            isAt(x, 0, 6, 2, 99);
        });
    }

    // ---- 11 ----

    private static void steps() {
        test("11: 1 STEP, the fewest", () -> {
            GroutingIsFollowed x = told("p141;");
            due("steps(1)", x.steps(1), 270);
            due("STEP", x.count(1), 1);
        });
        test("11: 60 STEPS, the most", () -> {
            GroutingIsFollowed x = told("p001;");
            due("steps(60): in 12 STEPS 4 NODES are 1 less", x.steps(60), 270 - 5 * 4);
            due("STEP", x.count(1), 60);
            isAt(x, 0, 0, 1, 10);
        });
        test("11: 0 STEPS", () -> {
            GroutingIsFollowed x = told("p141;");
            due("steps(0)", x.steps(0), -4);
            due("steps(-1)", x.steps(-1), -4);
            due("steps(least)", x.steps(Bench.LEAST), -4);
            due("STEP", x.count(1), 0);
            Bench.refused(x, 0, 0, 0, 3, 0);
        });
        test("11: 61 STEPS", () -> {
            GroutingIsFollowed x = told("p141;");
            due("steps(61)", x.steps(61), -6);
            due("steps(greatest)", x.steps(Bench.GREATEST), -6);
            due("STEP", x.count(1), 0);
            isAt(x, 0, 14, 1, 0);
            Bench.refused(x, 0, 0, 0, 0, 2);
        });
        test("11: STEP 999, not above, by 1", () -> {
            GroutingIsFollowed x = atStep(998);
            due("to 999", x.steps(1), 270);
            due("to 1000", x.steps(1), -6);
            due("STEP", x.count(1), 999);
            Bench.refused(x, 0, 0, 0, 0, 1);
        });
        test("11: STEP 999, not above, by 60", () -> {
            GroutingIsFollowed x = atStep(939);
            due("to 999", x.steps(60), 270);
            x = atStep(940);
            x.comesIn(14, 1);
            due("to 1000", x.steps(60), -6);
            due("STEP", x.count(1), 940);
            isAt(x, 0, 14, 1, 0);
        });
        test("11: at STEP 999 0 STEPS are -4, the first that fits", () -> {
            GroutingIsFollowed x = atStep(999);
            due("steps(0)", x.steps(0), -4);
            due("steps(61)", x.steps(61), -6);
            Bench.refused(x, 0, 0, 0, 1, 1);
        });
        test("11: ALL WET of a wall all dry", () -> {
            GroutingIsFollowed x = told("p141;");
            Bench.allWet(x, 0);
            due("steps(60)", x.steps(60), 0);
        });
    }
}
