/** Every boundary that promises 24 to 37, and of the terms DRY .. LOTS and THE IMAGE, name: a test for each. */
public final class BoundaryAnswersTest {
    private static final int[] NOBODY = {-1, 1, 2, 3, 4, Bench.LEAST, Bench.GREATEST};
    private static final int[] NO_NODE = {-1, 30, Bench.LEAST, Bench.GREATEST};
    private static final int[] NOT_0_OR_1 = {-1, 2, Bench.LEAST, Bench.GREATEST};

    public static void main(String[] args) {
        dryAndWet();
        helpedTogetherCorner();
        rowsOfTheWall();
        kinds();
        near();
        twoGains();
        twoRefused();
        steam();
        steamRefused();
        mean();
        whatIsKinds();
        whatIsFigures();
        row();
        judge();
        clear();
        lots();
        draws();
        image();
        counts();
        countsOfRefusals();
        Bench.end("boundaries of answers");
    }

    private static void test(String title, Runnable body) {
        Bench.test(title, body);
    }

    private static void due(String call, long got, long want) {
        Bench.due(call, got, want);
    }

    private static GroutingIsFollowed fresh() {
        return Bench.fresh();
    }

    private static GroutingIsFollowed told(String text) {
        return Bench.told(text);
    }

    private static GroutingIsFollowed atStep(int step, String text) {
        GroutingIsFollowed x = Bench.atStep(step);
        due("wall of " + text, Math.min(0, Bench.tell(x, text)), 0);
        return x;
    }

    private static GroutingIsFollowed allDry(String text) {
        GroutingIsFollowed x = fresh();
        Bench.allWet(x, 0);
        if (!text.isEmpty()) due("wall of " + text, Math.min(0, Bench.tell(x, text)), 0);
        return x;
    }

    // ---- 24 ----

    private static void dryAndWet() {
        test("24: what 0 .. 6, no other", () -> {
            GroutingIsFollowed x = fresh();
            for (int what : new int[] {-1, 7, Bench.LEAST, Bench.GREATEST}) due("dry(" + what + ")", x.dry(what), -2);
            Bench.refused(x, 0, 4, 0, 0, 0);
        });
        test("24: DRY: none, one, all", () -> {
            due("none", fresh().dry(0), 0);
            due("NODE 0", told("w000;").dry(0), 1);
            due("NODE 29", told("w290;").dry(0), 1);
            due("all", allDry("").dry(0), 30);
        });
        test("24: DRY: WET 1 is not", () -> due("dry(0)", told("w001;").dry(0), 0));
        test("24: WETTEST: all the same: the least", () -> {
            due("WET 9", fresh().dry(1), 0);
            due("WET 0", allDry("").dry(1), 0);
        });
        test("24: WETTEST: of two the least", () -> due("dry(1)", allDry("w113;w203;w012;").dry(1), 11));
        test("24: WETTEST: NODE 29 alone", () -> due("dry(1)", allDry("w291;").dry(1), 29));
        test("24: WETTEST: each NODE alone", () -> {
            GroutingIsFollowed x = allDry("");
            for (int node = 0; node < 30; node++) {
                x.wets(node, 1);
                due("dry(1)", x.dry(1), node);
                x.wets(node, 0);
            }
        });
        test("24: ALL WET: none and 270", () -> {
            due("none", allDry("").dry(2), 0);
            due("all", fresh().dry(2), 270);
            due("NODE 29 alone", allDry("w297;").dry(2), 7);
            due("NODE 0 alone", allDry("w007;").dry(2), 7);
        });
    }

    private static void helpedTogetherCorner() {
        test("24: MOST HELPED: nobody is -9", () -> due("dry(3)", fresh().dry(3), -9));
        test("24: MOST HELPED: all 0: the least", () -> due("dry(3)", told("p140;p140;p140;p140;").dry(3), 0));
        test("24: MOST HELPED: of two the least", () -> due("dry(3)", told("p140;p000;p000;s01;").dry(3), 1));
        test("24: MOST HELPED: number 3, the last", () -> due("dry(3)", told("p140;p150;p160;p000;s01;").dry(3), 3));
        test("24: MOST HELPED: 99 and 99: the least", () -> {
            GroutingIsFollowed x = told("n00y0;p140;p002;p000;s60;s60;");
            due("person(1, 2)", x.person(1, 2), 99);
            due("dry(3)", x.dry(3), 1);
        });
        test("24: TOGETHER: nobody, one, two apart: none", () -> {
            due("nobody", fresh().dry(4), 0);
            due("one", told("p000;").dry(4), 0);
            due("two apart", told("p000;p010;").dry(4), 0);
        });
        test("24: TOGETHER: 2, 3 and 4 AT one NODE are one bit", () -> {
            due("2", told("p290;p291;").dry(4), 1 << 29);
            due("3", told("p290;p291;p290;").dry(4), 1 << 29);
            due("4", told("p290;p291;p290;p290;").dry(4), 1 << 29);
        });
        test("24: TOGETHER: two NODES, the first bit and the last", () -> due("dry(4)", told("p290;p000;p290;p000;").dry(4), 1 << 29 | 1));
        test("24: TOGETHER: AT a NODE WET 0, too", () -> due("dry(4)", told("w030;p030;p030;").dry(4), 8));
        test("24: CORNER: nobody is 0", () -> due("dry(5)", fresh().dry(5), 0));
        test("24: CORNER: each NODE of the edges, no NODE within", () -> {
            GroutingIsFollowed x = told("p000;");
            int many = 0;
            for (int node = 0; node < 30; node++) {
                x.stands(0, node);
                boolean within = node > 6 && node < 11 || node > 12 && node < 17 || node > 18 && node < 23;
                due("dry(5) at " + node, x.dry(5), within ? 0 : 1);
                many += x.dry(5);
            }
            due("NODES at an edge", many, 18);
        });
        test("24: CORNER: PEOPLE are counted, 4 at one NODE, too", () -> due("dry(5)", told("p000;p000;p000;p000;").dry(5), 4));
    }

    private static void rowsOfTheWall() {
        test("24: ROWS: all the same: the least", () -> {
            due("WET 9", fresh().dry(6), 0);
            due("WET 0", allDry("").dry(6), 0);
        });
        test("24: ROWS: of two the least", () -> due("dry(6)", allDry("w092;w101;w223;").dry(6), 1));
        test("24: ROWS: the first and the last NODE of each row", () -> {
            for (int row = 0; row < 5; row++) {
                GroutingIsFollowed x = allDry("");
                x.wets(6 * row, 1);
                due("dry(6), the first of row " + row, x.dry(6), row);
                x.wets(6 * row, 0);
                x.wets(6 * row + 5, 1);
                due("dry(6), the last of row " + row, x.dry(6), row);
            }
        });
        test("24: ROWS: together, not the wettest NODE", () -> due("dry(6)", allDry("w009;w245;w295;").dry(6), 4));
    }

    // ---- 25, 26 ----

    private static void kinds() {
        test("25: no such KIND", () -> {
            GroutingIsFollowed x = fresh();
            for (int kind : new int[] {-1, 6, Bench.LEAST, Bench.GREATEST}) due("kinds(" + kind + ")", x.kinds(kind), -2);
            Bench.refused(x, 0, 4, 0, 0, 0);
        });
        test("25: none of a KIND, 30 of a KIND, each KIND", () -> {
            for (int kind = 0; kind < 6; kind++) {
                GroutingIsFollowed x = fresh();
                for (int node = 0; node < 30; node++) x.lays(node, kind, 0);
                for (int asked = 0; asked < 6; asked++) due("kinds(" + asked + ")", x.kinds(asked), asked == kind ? 30 : 0);
            }
        });
        test("25: a KIND is not those under it", () -> {
            GroutingIsFollowed x = told("n00l0;n29r0;");
            due("LEFT", x.kinds(1), 1);
            due("STRAIGHT", x.kinds(0), 28);
        });
    }

    private static void near() {
        test("26: nobody is -9", () -> {
            GroutingIsFollowed x = fresh();
            due("near(0)", x.near(0), -9);
            due("near(29)", x.near(29), -9);
            Bench.refused(x, 0, 0, 0, 0, 0);
        });
        test("26: no such NODE, with nobody, too", () -> {
            GroutingIsFollowed x = fresh();
            for (int node : NO_NODE) due("near(" + node + ")", x.near(node), -1);
            Bench.refused(x, 4, 0, 0, 0, 0);
        });
        test("26: he who is there is nearest", () -> due("near(14)", told("p130;p140;").near(14), 1));
        test("26: of several the least", () -> {
            due("near(14)", told("p000;p080;p200;p150;").near(14), 1);
            due("all at one", told("p290;p290;").near(0), 0);
        });
        test("26: the farthest, alone", () -> {
            due("near(29)", told("p000;").near(29), 0);
            due("near(0)", told("p290;").near(0), 0);
            due("near(24)", told("p050;").near(24), 0);
        });
        test("26: number 3, the last of 4", () -> due("near(29)", told("p000;p010;p020;p030;").near(29), 3));
        test("26: by rows and columns, not by NODES", () -> due("near(5), from 6 and from 11", told("p060;p110;").near(5), 1));
        test("26: rows and columns between as the fewest STEPS over a wall all WET, each NODE", () -> {
            GroutingIsFollowed x = told("p280;p070;p030;p180;");
            for (int node = 0; node < 30; node++) {
                int there = node;
                due("near(" + node + ")", x.near(node), Bench.most(3, person -> -x.way(x.person(person, 0), there, 0)));
            }
        });
        test("26: a NODE WET 0 between is no matter", () -> due("near(0)", told("w010;w060;p020;p240;").near(0), 0));
    }

    // ---- 27 ----

    private static void twoGains() {
        test("27: in 0 STEPS nobody has more by another: 0, the first pair", () -> {
            due("apart", told("p141;p203;").two(0, 1, 0), 0);
            due("AT one NODE", told("p141;p143;").two(0, 1, 0), 0);
        });
        test("27: at an edge going on is no more in 1 STEP: 0, the first pair", () -> due("two(0, 1, 1)", told("p003;p291;").two(0, 1, 1), 0));
        test("27: 1 the other goes on alone", () -> due("two(0, 1, 1)", told("p003;p293;").two(0, 1, 1), 1));
        test("27: 10 the first goes on alone", () -> due("two(0, 1, 1)", told("p001;p291;").two(0, 1, 1), 10));
        test("27: 11 both go on", () -> due("two(0, 1, 1)", told("p001;p293;").two(0, 1, 1), 11));
        test("27: 2 more if they MEET behind the last of n STEPS", () -> {
            GroutingIsFollowed x = told("p071;p083;");
            due("in 1 STEP 3 and 4 by the other alone, 2 and 2 by both", x.two(0, 1, 1), 1);
            due("turned", x.two(1, 0, 1), 1);
        });
        test("27: no more if they MEET one STEP later", () -> {
            GroutingIsFollowed x = told("p121;p153;");
            due("they would MEET behind 3", x.two(0, 1, 2), 11);
        });
        test("27: VISITS behind the last of n STEPS count", () -> {
            GroutingIsFollowed x = told("p071;p083;");
            due("in 2 STEPS 3 and 3 by both", x.two(0, 1, 2), 1);
            due("in 3 STEPS 4 and 3 by both", x.two(0, 1, 3), 10);
        });
        test("27: MEET in n STEPS: behind 0, too", () -> {
            GroutingIsFollowed x = told("p140;p142;");
            due("in 1 STEP 3 and 3 by standing, 4 and 4 by going", x.two(0, 1, 1), 11);
        });
        test("27: MEET in them is 2 more, not 2 for each STEP", () -> {
            GroutingIsFollowed x = told("p140;p142;");
            due("in 2 STEPS 3 and 3 by standing, 5 and 5 by going", x.two(0, 1, 2), 11);
        });
        test("27: in 30 STEPS, the most: the last of them counts", () -> {
            GroutingIsFollowed x = told("n29c1;n03y3;n14y0;p131;p010;");
            due("in 29", x.two(0, 1, 29), 1);
            due("in 30", x.two(0, 1, 30), 11);
        });
        test("27: AT a NODE WET 0 going on is standing", () -> {
            due("both", told("p141;p203;w140;w200;").two(0, 1, 30), 0);
            due("the first", told("p141;p203;w140;").two(0, 1, 2), 1);
            due("the other", told("p141;p203;w200;").two(0, 1, 2), 10);
        });
        test("27: NODE 0 and NODE 29 count as all do", () -> {
            due("the first to 0", told("p013;p291;").two(0, 1, 1), 10);
            due("the other to 0", told("p291;p013;").two(0, 1, 1), 1);
            due("to 29 and to 0", told("p281;p013;").two(0, 1, 1), 11);
        });
        test("27: nothing is another behind it", () -> {
            GroutingIsFollowed x = told("w141;s01;p141;p131;");
            String before = Bench.state(x);
            x.two(1, 0, 30);
            Bench.due("state", Bench.state(x), before);
        });
        test("27: PEOPLE who are not of the two go on", () -> {
            GroutingIsFollowed x = told("w141;s01;p141;p143;p291;");
            due("the first of PEOPLE dries it under one of the two", x.two(1, 2, 1), 0);
        });
        test("27: the two by other numbers: the pair is turned", () -> {
            GroutingIsFollowed x = told("p003;p293;");
            due("two(0, 1, 1)", x.two(0, 1, 1), 1);
            due("two(1, 0, 1)", x.two(1, 0, 1), 10);
        });
        test("27: STEP may pass 999", () -> due("two(0, 1, 1)", atStep(999, "p001;p293;").two(0, 1, 1), 11));
    }

    private static void twoRefused() {
        test("27: one twice", () -> {
            GroutingIsFollowed x = told("p001;p293;");
            due("two(0, 0, 0)", x.two(0, 0, 0), -1);
            due("two(1, 1, -1)", x.two(1, 1, -1), -1);
            Bench.refused(x, 2, 0, 0, 0, 0);
        });
        test("27: nobody, either", () -> {
            GroutingIsFollowed x = told("p001;");
            for (int person : NOBODY) {
                due("two(" + person + ", 0, 0)", x.two(person, 0, 0), -1);
                due("two(0, " + person + ", 0)", x.two(0, person, 0), -1);
            }
            Bench.refused(x, 14, 0, 0, 0, 0);
        });
        test("27: STEPS below 0", () -> {
            GroutingIsFollowed x = told("p001;p293;");
            due("-1", x.two(0, 1, -1), -4);
            due("least", x.two(0, 1, Bench.LEAST), -4);
            Bench.refused(x, 0, 0, 0, 2, 0);
        });
        test("27: STEPS above 30", () -> {
            GroutingIsFollowed x = told("p001;p293;");
            due("31", x.two(0, 1, 31), -6);
            due("greatest", x.two(0, 1, Bench.GREATEST), -6);
            Bench.refused(x, 0, 0, 0, 0, 2);
        });
        test("27: numbers 3 and 2, the last of 4", () -> {
            GroutingIsFollowed x = told("p141;p141;p003;p293;");
            due("two(2, 3, 1)", x.two(2, 3, 1), 1);
            due("two(3, 2, 1)", x.two(3, 2, 1), 10);
            due("two(3, 4, 1)", x.two(3, 4, 1), -1);
        });
    }

    // ---- 28, 29 ----

    private static void likely(GroutingIsFollowed x, int node, int n, int t, long above, long below) {
        due("steam(0, " + node + ", " + n + ", " + t + ", 0)", x.steam(0, node, n, t, 0), above);
        due("steam(0, " + node + ", " + n + ", " + t + ", 1)", x.steam(0, node, n, t, 1), below);
    }

    private static void steam() {
        test("28: in 0 STEPS it is 1 by 1 where he is, 0 by 1 elsewhere", () -> {
            GroutingIsFollowed x = told("p141;");
            likely(x, 14, 0, 2, 1, 1);
            likely(x, 15, 0, 20, 0, 1);
        });
        test("28: in 7 STEPS, the most, by 20, the most", () -> {
            GroutingIsFollowed x = told("w140;p141;p001;");
            likely(x, 14, 7, 20, 1, 1);
            likely(told("p121;"), 12, 7, 20, 1, 1280000000L);
        });
        test("28: odds 1 in 2, the greatest", () -> {
            GroutingIsFollowed x = told("p121;");
            likely(x, 12, 1, 2, 1, 2);
            likely(x, 13, 1, 2, 1, 2);
            likely(x, 12, 7, 2, 1, 128);
        });
        test("28: odds 1 in t that nobody sees, t less 1 in t that they go on", () -> {
            GroutingIsFollowed x = told("p121;");
            likely(x, 12, 1, 20, 1, 20);
            likely(x, 13, 1, 20, 19, 20);
            likely(x, 13, 2, 3, 4, 9);
            likely(x, 14, 2, 3, 4, 9);
            likely(x, 12, 2, 3, 1, 9);
        });
        test("28: told in least terms", () -> {
            likely(told("p121;"), 13, 2, 2, 1, 2);
            likely(told("p121;"), 13, 2, 4, 3, 8);
            likely(told("n12y0;p123;"), 12, 1, 20, 1, 20);
            likely(told("p003;"), 0, 1, 20, 1, 1);
        });
        test("28: never there is 0 by 1", () -> {
            GroutingIsFollowed x = told("p121;");
            likely(x, 14, 1, 7, 0, 1);
            likely(x, 29, 7, 20, 0, 1);
        });
        test("28: all stay, HEADING as they are", () -> {
            GroutingIsFollowed x = told("n14l0;p141;");
            likely(x, 14, 1, 2, 1, 2);
            likely(x, 8, 1, 2, 1, 2);
            likely(x, 8, 2, 2, 1, 2);
            likely(x, 2, 2, 2, 1, 4);
        });
        test("28: all stay: who would dry it stays, too", () -> {
            GroutingIsFollowed x = told("w141;s01;p131;p141;");
            due("the other leaves it, then it is dry for him", x.personThen(0, 60, 0), 14);
            likely(x, 15, 2, 2, 0, 1);
            x = told("w141;s01;p141;p131;");
            due("one behind him gets stuck", x.personThen(1, 60, 0), 14);
            due("15 in 2 STEPS", x.steam(1, 15, 2, 2, 0), 0);
            due("15 in 3 STEPS: steam first, then both go on", x.steam(1, 15, 3, 2, 0), 1);
            due("15 in 3 STEPS, below", x.steam(1, 15, 3, 2, 1), 8);
        });
        test("28: STEP is 1 more in steam, too", () -> {
            GroutingIsFollowed x = told("n14b0;p141;");
            likely(x, 15, 2, 2, 1, 4);
            likely(x, 8, 2, 2, 1, 4);
            likely(x, 2, 2, 2, 1, 4);
            likely(x, 14, 2, 2, 1, 4);
        });
        test("28: STEP may pass 999", () -> {
            GroutingIsFollowed x = atStep(999, "n14c2;p141;");
            likely(x, 20, 1, 4, 3, 4);
            likely(x, 15, 1, 4, 0, 1);
        });
        test("28: nothing is another behind it", () -> {
            GroutingIsFollowed x = told("p121;p030;w040;s03;");
            String before = Bench.state(x);
            x.steam(0, 13, 7, 20, 0);
            Bench.due("state", Bench.state(x), before);
        });
    }

    private static void steamRefused() {
        test("28: nobody", () -> {
            GroutingIsFollowed x = told("p121;");
            for (int person : NOBODY) due("steam of " + person, x.steam(person, 0, 0, 2, 0), 4000000000000000001L);
            Bench.refused(x, 7, 0, 0, 0, 0);
        });
        test("28: no such NODE", () -> {
            GroutingIsFollowed x = told("p121;");
            for (int node : NO_NODE) due("steam at " + node, x.steam(0, node, 0, 2, 0), 4000000000000000001L);
            Bench.refused(x, 4, 0, 0, 0, 0);
        });
        test("28: n below 0", () -> {
            GroutingIsFollowed x = told("p121;");
            due("-1", x.steam(0, 0, -1, 2, 0), 4000000000000000004L);
            due("least", x.steam(0, 0, Bench.LEAST, 2, 0), 4000000000000000004L);
            Bench.refused(x, 0, 0, 0, 2, 0);
        });
        test("28: t below 2", () -> {
            GroutingIsFollowed x = told("p121;");
            for (int t : new int[] {1, 0, -1, Bench.LEAST}) due("t " + t, x.steam(0, 0, 0, t, 0), 4000000000000000004L);
            Bench.refused(x, 0, 0, 0, 4, 0);
        });
        test("28: n above 7", () -> {
            GroutingIsFollowed x = told("p121;");
            due("8", x.steam(0, 0, 8, 2, 0), 4000000000000000006L);
            due("greatest", x.steam(0, 0, Bench.GREATEST, 2, 0), 4000000000000000006L);
            Bench.refused(x, 0, 0, 0, 0, 2);
        });
        test("28: t above 20", () -> {
            GroutingIsFollowed x = told("p121;");
            due("21", x.steam(0, 0, 0, 21, 0), 4000000000000000006L);
            due("greatest", x.steam(0, 0, 0, Bench.GREATEST, 0), 4000000000000000006L);
            Bench.refused(x, 0, 0, 0, 0, 2);
        });
        test("28: n above and t below: -4 is the first that fits", () -> {
            GroutingIsFollowed x = told("p121;");
            due("8 and 1", x.steam(0, 0, 8, 1, 2), 4000000000000000004L);
            due("-1 and 21", x.steam(0, 0, -1, 21, 2), 4000000000000000004L);
            Bench.refused(x, 0, 0, 0, 2, 0);
        });
        test("28: part 0 and 1, no other", () -> {
            GroutingIsFollowed x = told("p121;");
            for (int part : NOT_0_OR_1) due("part " + part, x.steam(0, 0, 0, 2, part), 4000000000000000002L);
            Bench.refused(x, 0, 4, 0, 0, 0);
        });
    }

    private static void mean(GroutingIsFollowed x, long above, long below) {
        due("mean(0)", x.mean(0), above);
        due("mean(1)", x.mean(1), below);
    }

    private static void mean() {
        test("29: all WET 9 is 9 by 1", () -> mean(fresh(), 9, 1));
        test("29: all WET 0 is 0 by 1", () -> mean(allDry(""), 0, 1));
        test("29: the least above 0 is 1 by 30", () -> mean(allDry("w291;"), 1, 30));
        test("29: the greatest below 9 is 269 by 30", () -> mean(told("w008;"), 269, 30));
        test("29: told in least terms", () -> {
            mean(allDry("w004;"), 2, 15);
            mean(allDry("w009;w011;"), 1, 3);
            mean(told("w004;w014;"), 26, 3);
        });
        test("29: part 0 and 1, no other", () -> {
            GroutingIsFollowed x = fresh();
            for (int part : NOT_0_OR_1) due("mean(" + part + ")", x.mean(part), 4000000000000000002L);
            Bench.refused(x, 0, 4, 0, 0, 0);
        });
    }

    // ---- 30 ----

    private static void whatIsKinds() {
        test("30: no ROW: all is so", () -> {
            GroutingIsFollowed x = told("p141;");
            due("KINDS", x.whatIs(14, 0, 0), 63);
            due("FIGURES", x.whatIs(14, 0, 1), 1023);
        });
        test("30: behind 0 STEPS: where he is", () -> {
            GroutingIsFollowed x = told("p141;");
            x.row(14);
            due("so", x.whatIs(14, 0, 0), 63);
            x.clear();
            x.row(15);
            due("not so", x.whatIs(14, 0, 0), 0);
            due("FIGURES", x.whatIs(14, 0, 1), 0);
        });
        test("30: each KIND has its bit, 0 and 5 the outermost", () -> {
            due("up: LEFT and BEND", kindsBy("p141;", 14, 8), 2 | 16);
            due("right: STRAIGHT and CHOICE in STEP 1", kindsBy("p141;", 14, 15), 1 | 8);
            due("down: RIGHT", kindsBy("p141;", 14, 20), 4);
            due("left: YES", kindsBy("p141;", 14, 13), 32);
            due("up in STEP 4: LEFT, CHOICE by 0", kindsBy("s03;p141;", 14, 8), 2 | 8);
            due("right in STEP 4: STRAIGHT and BEND", kindsBy("s03;p141;", 14, 15), 1 | 16);
            due("stays at an edge: STRAIGHT and CHOICE", kindsBy("p051;", 5, 5), 1 | 2 | 8 | 16);
        });
        test("30: a ROW of 16 numbers: the last of them, too", () -> {
            GroutingIsFollowed x = told("p121;");
            Bench.rows(x, 12, 13, 14, 15, 16, 17, 17, 16, 15, 14, 13, 12, 12, 13, 14, 15);
            due("all so", x.whatIs(0, 0, 0), 63);
            due("FIGURES", x.whatIs(0, 0, 1), 1023);
            x.clear();
            Bench.rows(x, 12, 13, 14, 15, 16, 17, 17, 16, 15, 14, 13, 12, 12, 13, 14, 16);
            due("the last not so", x.whatIs(0, 0, 0), 0);
        });
        test("30: a number that is no NODE is never so: 30, 99", () -> {
            for (int v : new int[] {30, 99}) {
                GroutingIsFollowed x = told("p141;");
                Bench.rows(x, 14, v);
                due("KINDS", x.whatIs(14, 0, 0), 0);
                due("FIGURES", x.whatIs(14, 0, 1), 0);
            }
        });
        test("30: AT a NODE WET 0 all KINDS stay", () -> {
            GroutingIsFollowed x = told("w140;p141;");
            Bench.rows(x, 14, 14, 14);
            due("KINDS", x.whatIs(14, 0, 0), 63);
            x.row(15);
            due("not so", x.whatIs(14, 0, 0), 0);
        });
        test("30: the ROW stays, the NODE stays", () -> {
            GroutingIsFollowed x = told("n14b7;p141;");
            Bench.rows(x, 14, 8);
            String before = Bench.state(x);
            due("KINDS", x.whatIs(14, 0, 0), 18);
            due("KINDS again", x.whatIs(14, 0, 0), 18);
            due("FIGURES", x.whatIs(14, 0, 1), 1023);
            Bench.due("state", Bench.state(x), before);
        });
        test("30: STEP may pass 999", () -> {
            GroutingIsFollowed x = atStep(999, "n14s2;p141;");
            Bench.rows(x, 14, 20);
            due("RIGHT, CHOICE by 2 in STEP 1000", x.whatIs(14, 0, 0), 4 | 8);
        });
    }

    private static int kindsBy(String text, int from, int to) {
        GroutingIsFollowed x = told(text);
        Bench.rows(x, from, to);
        return x.whatIs(from, 0, 0);
    }

    private static void whatIsFigures() {
        test("30: FIGURES 0 .. 9 have their bits, 0 and 9 the outermost", () -> {
            due("0, 4, 8", figuresBy(8), 1 | 16 | 256);
            due("1, 5, 9", figuresBy(15), 2 | 32 | 512);
            due("2, 6", figuresBy(20), 4 | 64);
            due("3, 7", figuresBy(13), 8 | 128);
        });
        test("30: FIGURES of a KIND that has no CHOICE: all or none", () -> {
            GroutingIsFollowed x = told("s03;n14l2;p141;");
            Bench.rows(x, 14, 8);
            due("all", x.whatIs(14, 0, 1), 1023);
            x.row(3);
            due("none", x.whatIs(14, 0, 1), 0);
        });
        test("30: nobody", () -> {
            GroutingIsFollowed x = told("p141;");
            for (int person : NOBODY) due("whatIs(0, " + person + ", 0)", x.whatIs(0, person, 0), -1);
            Bench.refused(x, 7, 0, 0, 0, 0);
        });
        test("30: no such NODE", () -> {
            GroutingIsFollowed x = told("p141;");
            for (int node : NO_NODE) due("whatIs(" + node + ", 0, 0)", x.whatIs(node, 0, 0), -1);
            Bench.refused(x, 4, 0, 0, 0, 0);
        });
        test("30: what 0 and 1, no other", () -> {
            GroutingIsFollowed x = told("p141;");
            for (int what : NOT_0_OR_1) due("what " + what, x.whatIs(0, 0, what), -2);
            Bench.refused(x, 0, 4, 0, 0, 0);
        });
    }

    private static int figuresBy(int to) {
        GroutingIsFollowed x = told("s03;n14c2;p141;");
        Bench.rows(x, 14, to);
        return x.whatIs(14, 0, 1);
    }

    // ---- 31, 32, 33 ----

    private static void row() {
        test("31: 0, the least, and 99, the greatest", () -> {
            GroutingIsFollowed x = fresh();
            due("row(0)", x.row(0), 1);
            due("row(99)", x.row(99), 2);
        });
        test("31: below 0", () -> {
            GroutingIsFollowed x = fresh();
            due("row(-1)", x.row(-1), -4);
            due("row(least)", x.row(Bench.LEAST), -4);
            due("count(6)", x.count(6), 0);
            Bench.refused(x, 0, 0, 0, 2, 0);
        });
        test("31: above 99", () -> {
            GroutingIsFollowed x = fresh();
            due("row(100)", x.row(100), -6);
            due("row(greatest)", x.row(Bench.GREATEST), -6);
            due("count(6)", x.count(6), 0);
            Bench.refused(x, 0, 0, 0, 0, 2);
        });
        test("31: 16 numbers, no more", () -> {
            GroutingIsFollowed x = fresh();
            for (int i = 1; i <= 16; i++) due("row", x.row(9), i);
            due("the 17th", x.row(0), -6);
            due("count(6)", x.count(6), 16);
            due("the 17th is not in it", x.judge(), -9);
            Bench.refused(x, 0, 0, 0, 0, 1);
        });
        test("31: with 16 numbers one below 0 is -4, the first that fits", () -> {
            GroutingIsFollowed x = fresh();
            for (int i = 1; i <= 16; i++) x.row(9);
            due("row(-1)", x.row(-1), -4);
            due("row(100)", x.row(100), -6);
            Bench.refused(x, 0, 0, 0, 1, 1);
        });
    }

    private static void judge() {
        test("32: no ROW is -9", () -> {
            GroutingIsFollowed x = fresh();
            due("judge()", x.judge(), -9);
            Bench.refused(x, 0, 0, 0, 0, 0);
        });
        test("32: NODE 0 is not so", () -> {
            GroutingIsFollowed x = fresh();
            x.row(8);
            due("judge()", x.judge(), 0);
        });
        test("32: of 16 the last is not so", () -> {
            GroutingIsFollowed x = fresh();
            for (int i = 0; i < 15; i++) x.row(9);
            x.row(8);
            due("judge()", x.judge(), 15);
        });
        test("32: all 16 are so", () -> {
            GroutingIsFollowed x = told("w000;w158;");
            x.row(0);
            for (int i = 1; i < 15; i++) x.row(9);
            x.row(8);
            due("judge()", x.judge(), -9);
        });
        test("32: of several the first", () -> {
            GroutingIsFollowed x = fresh();
            Bench.rows(x, 9, 9, 0, 9, 1, 2);
            due("judge()", x.judge(), 2);
        });
        test("32: a number above 9 is never so", () -> {
            GroutingIsFollowed x = fresh();
            Bench.rows(x, 9, 10);
            due("judge()", x.judge(), 1);
            Bench.rows(x, 99);
            due("judge()", x.judge(), 0);
        });
        test("32: the ROW has none then, so or not so", () -> {
            GroutingIsFollowed x = fresh();
            Bench.rows(x, 9, 9);
            due("so", x.judge(), -9);
            due("count(6)", x.count(6), 0);
            Bench.rows(x, 9, 8, 9);
            due("not so", x.judge(), 1);
            due("count(6)", x.count(6), 0);
            due("none", x.judge(), -9);
            due("row", x.row(1), 1);
        });
    }

    private static void clear() {
        test("33: of no ROW it is 0", () -> {
            GroutingIsFollowed x = fresh();
            due("clear()", x.clear(), 0);
            Bench.refused(x, 0, 0, 0, 0, 0);
        });
        test("33: of 16 numbers, then 16 come again", () -> {
            GroutingIsFollowed x = fresh();
            for (int i = 0; i < 16; i++) x.row(3);
            due("clear()", x.clear(), 16);
            due("count(6)", x.count(6), 0);
            for (int i = 1; i <= 16; i++) due("row", x.row(9), i);
            due("judge()", x.judge(), -9);
        });
    }

    // ---- 34 ----

    private static void lots() {
        test("34: nobody: 0, however many baths", () -> {
            for (int n : new int[] {1, 20}) {
                due("HELPED", fresh().lots(n, 5, 0), 0);
                due("AT a NODE WET 0", allDry("").lots(n, 5, 1), 0);
            }
        });
        test("34: 1 bath, the fewest", () -> due("AT a NODE WET 0", allDry("p141;").lots(1, 5, 1), 1));
        test("34: 20 baths, the most", () -> due("AT a NODE WET 0", allDry("p141;p141;p141;p141;").lots(20, 5, 1), 80));
        test("34: 0 baths", () -> {
            GroutingIsFollowed x = told("p141;");
            for (int n : new int[] {0, -1, Bench.LEAST}) due("lots(" + n + ")", x.lots(n, 5, 0), -4);
            Bench.refused(x, 0, 0, 0, 3, 0);
        });
        test("34: 21 baths", () -> {
            GroutingIsFollowed x = told("p141;");
            for (int n : new int[] {21, Bench.GREATEST}) due("lots(" + n + ")", x.lots(n, 5, 0), -6);
            Bench.refused(x, 0, 0, 0, 0, 2);
        });
        test("34: what 0 and 1, no other", () -> {
            GroutingIsFollowed x = told("p141;");
            for (int what : NOT_0_OR_1) due("what " + what, x.lots(1, 5, what), -2);
            Bench.refused(x, 0, 4, 0, 0, 0);
        });
        test("34: HELPED more, not all HELPED", () -> {
            GroutingIsFollowed x = told("p141;");
            int more = x.lots(20, 5, 0);
            x = told("n00y0;p002;s60;n00s0;");
            due("HELPED", x.person(0, 2), 60);
            Bench.allWet(x, 9);
            due("lots(20, 5, 0)", x.lots(20, 5, 0), more);
        });
        test("34: who is HELPED 99 can't be HELPED more", () -> {
            GroutingIsFollowed x = told("n00y0;p002;s60;s60;n00s0;");
            due("lots(20, 5, 0)", x.lots(20, 5, 0), 0);
        });
        test("34: STEP may pass 999 in a bath", () -> {
            GroutingIsFollowed x = atStep(999, "p141;");
            due("lots(20, 5, 0)", x.lots(20, 5, 0), told("s01;p141;").lots(20, 5, 0));
            due("STEP", x.count(1), 999);
        });
        test("34: each bath from now, and now stays", () -> {
            GroutingIsFollowed x = told("w141;w151;n07r0;p141;p283;p000;");
            String before = Bench.state(x);
            int first = x.lots(20, 5, 0);
            int stuck = x.lots(20, 5, 1);
            Bench.due("state", Bench.state(x), before);
            due("again", x.lots(20, 5, 0), first);
            due("again", x.lots(20, 5, 1), stuck);
        });
    }

    /** By a long alone: the low 32 bits of z, then a draw of them without the highest. */
    private static long next(long z) {
        return (z * 1664525 + 1013904223) & 0xffffffffL;
    }

    private static int of(long z, int m) {
        return (int) ((z & 0x7fffffffL) / 256 % m);
    }

    private static void draws() {
        int[] seeds = {0, 1, -1, 5, 123456789, -987654321, Bench.LEAST, Bench.GREATEST};
        for (int seed : seeds) {
            test("34: DRAWS with the seed " + seed + ", an int that wraps around", () -> {
                GroutingIsFollowed x = told("w080;w090;w200;n14r1;n15b2;n16c7;p001;p001;");
                int helped = 0;
                int stuck = 0;
                long z = seed & 0xffffffffL;
                x.image();
                for (int bath = 0; bath < 12; bath++) {
                    for (int person = 0; person < 2; person++) {
                        z = next(z);
                        x.stands(person, of(z, 30));
                        z = next(z);
                        x.heads(person, of(z, 4));
                    }
                    x.steps(12);
                    for (int person = 0; person < 2; person++) {
                        helped += x.person(person, 2);
                        if (x.node(x.person(person, 0), 2) == 0) stuck++;
                    }
                    x.on();
                }
                due("HELPED", x.lots(12, seed, 0), helped);
                due("AT a NODE WET 0", x.lots(12, seed, 1), stuck);
            });
        }
        test("34: the second bath goes on with the first one's z", () -> {
            GroutingIsFollowed x = allDry("p141;");
            x.wets(of(next(0), 30), 9);
            long z = next(next(next(0)));
            boolean same = of(z, 30) == of(next(0), 30);
            due("the second is drawn elsewhere", same ? 1 : 0, 0);
            due("AT a NODE WET 0 in one", x.lots(1, 0, 1), 1);
            due("AT a NODE WET 0 in two", x.lots(2, 0, 1), 2);
        });
    }

    // ---- 35, 36 ----

    private static void image() {
        test("36: there is none", () -> {
            GroutingIsFollowed x = told("p141;s05;");
            String before = Bench.state(x);
            due("on()", x.on(), -3);
            Bench.due("state", Bench.state(x), before);
            Bench.refused(x, 0, 0, 1, 0, 0);
        });
        test("35: the image of a new object is one", () -> {
            GroutingIsFollowed x = fresh();
            due("image()", x.image(), 0);
            x.comesIn(0, 0);
            x.steps(7);
            due("on()", x.on(), 0);
            due("PEOPLE", x.count(0), 0);
            Bench.refused(x, 0, 0, 0, 0, 0);
        });
        test("35: the image at STEP 999", () -> {
            GroutingIsFollowed x = Bench.atStep(999);
            due("image()", x.image(), 999);
            due("on()", x.on(), 999);
            due("steps(1)", x.steps(1), -6);
        });
        test("36: ON again and again: all is as then", () -> {
            GroutingIsFollowed x = told("n14y4;w133;p141;p000;s02;");
            String then = Bench.state(x);
            due("image()", x.image(), 2);
            for (int i = 0; i < 2; i++) {
                Bench.tell(x, "n14b5;w001;p291;h13;a105;s09;");
                due("on()", x.on(), 2);
                Bench.due("state", Bench.state(x), then);
            }
        });
        test("35: the later image is in the earlier one's place", () -> {
            GroutingIsFollowed x = fresh();
            x.image();
            x.steps(4);
            due("image()", x.image(), 4);
            x.steps(4);
            due("on()", x.on(), 4);
            due("STEP", x.count(1), 4);
        });
        test("36: the image stays behind ON", () -> {
            GroutingIsFollowed x = Bench.atStep(3);
            x.image();
            x.on();
            x.steps(5);
            due("on()", x.on(), 3);
        });
        test("36: not the ROW", () -> {
            GroutingIsFollowed x = fresh();
            x.row(9);
            x.image();
            x.row(8);
            x.on();
            due("count(6)", x.count(6), 2);
            due("judge()", x.judge(), 1);
        });
        test("36: not letters", () -> {
            GroutingIsFollowed x = fresh();
            x.letter('s');
            x.image();
            Bench.send(x, "05;");
            x.on();
            due("count(7)", x.count(7), 4);
            due("wall()", x.wall(), 1);
            due("STEP", x.count(1), 5);
        });
        test("36: not REFUSALS", () -> {
            GroutingIsFollowed x = fresh();
            x.on();
            x.node(30, 0);
            x.image();
            x.node(30, 0);
            x.kinds(6);
            x.row(-1);
            x.row(100);
            x.on();
            Bench.refused(x, 2, 1, 1, 1, 1);
        });
        test("36: HELPED, WET, PEOPLE, STEP, KIND, FIGURE, HEADING all are as then", () -> {
            GroutingIsFollowed x = told("p050;s01;");
            x.image();
            x.steps(60);
            x.lays(0, 5, 9);
            x.comesIn(7, 1);
            x.on();
            due("HELPED", x.person(0, 2), 1);
            due("HEADING", x.person(0, 1), 2);
            due("NODE", x.person(0, 0), 5);
            due("ALL WET", x.count(2), 270);
            due("PEOPLE", x.count(0), 1);
            due("STEP", x.count(1), 1);
            due("KIND", x.node(0, 0), 0);
            due("FIGURE", x.node(0, 1), 0);
        });
    }

    // ---- 37 ----

    private static void counts() {
        test("37: -9 for another what, which is no refusal", () -> {
            GroutingIsFollowed x = fresh();
            for (int what : new int[] {-1, 8, 9, 10, 17, Bench.LEAST, Bench.GREATEST}) due("count(" + what + ")", x.count(what), -9);
            Bench.refused(x, 0, 0, 0, 0, 0);
        });
        test("37: PEOPLE 0 and 4", () -> {
            due("none", fresh().count(0), 0);
            due("4", told("p000;p000;p000;p000;").count(0), 4);
        });
        test("37: STEP 0 and 999", () -> {
            due("0", fresh().count(1), 0);
            due("999", Bench.atStep(999).count(1), 999);
        });
        test("37: ALL WET 0 and 270", () -> {
            due("270", fresh().count(2), 270);
            due("0", allDry("").count(2), 0);
        });
        test("37: all HELPED 0 and 4 times 99", () -> {
            due("nobody", fresh().count(3), 0);
            due("none", told("p141;").count(3), 0);
            due("4 times 99", told("n00y0;p002;p002;p002;p002;s60;s60;").count(3), 396);
        });
        test("37: NODES WET 0: no bit, the first, the last, all", () -> {
            due("none", fresh().count(4), 0);
            due("the first", told("w000;").count(4), 1);
            due("the last", told("w290;").count(4), 1 << 29);
            due("all", allDry("").count(4), (1 << 30) - 1);
            due("not those WET 1", told("w001;w291;").count(4), 0);
        });
        test("37: all FIGURES 0 and 270", () -> {
            GroutingIsFollowed x = fresh();
            due("0", x.count(5), 0);
            for (int node = 0; node < 30; node++) x.lays(node, 0, 9);
            due("270", x.count(5), 270);
        });
        test("37: in the ROW 0 and 16", () -> {
            GroutingIsFollowed x = fresh();
            due("0", x.count(6), 0);
            for (int i = 0; i < 20; i++) x.row(i);
            due("16", x.count(6), 16);
        });
        test("37: letters 0 and 96", () -> {
            GroutingIsFollowed x = fresh();
            due("0", x.count(7), 0);
            for (int i = 0; i < 100; i++) x.letter(i);
            due("96", x.count(7), 96);
            x.wall();
            due("0 behind a wall", x.count(7), 0);
        });
    }

    private static void countsOfRefusals() {
        test("37: REFUSALS -1 .. -6 have their counts, 11 and 16 the outermost", () -> {
            GroutingIsFollowed x = fresh();
            for (int i = 0; i < 1; i++) x.near(30);
            for (int i = 0; i < 2; i++) x.kinds(6);
            for (int i = 0; i < 3; i++) x.on();
            for (int i = 0; i < 4; i++) x.steps(0);
            for (int i = 0; i < 5; i++) x.steps(61);
            Bench.refused(x, 1, 2, 3, 4, 5);
            due("count(15), -5 is none", x.count(15), 0);
        });
        test("37: REFUSALS of longs are counted, too", () -> {
            GroutingIsFollowed x = told("p141;");
            x.mean(2);
            x.steam(1, 0, 0, 2, 0);
            x.steam(0, 0, -1, 2, 0);
            x.steam(0, 0, 8, 2, 0);
            x.steam(0, 0, 0, 2, 2);
            Bench.refused(x, 1, 2, 0, 1, 1);
        });
        test("37: an answer of -9 is no refusal", () -> {
            GroutingIsFollowed x = told("p141;p203;w140;");
            due("person", x.person(0, 3), -9);
            due("comes", x.comes(0, 0), -9);
            due("stops", x.stops(1), -9);
            due("meets", x.meets(0, 1), -9);
            due("way", x.way(14, 0, 0), -9);
            due("head", x.head(0, 0), -9);
            due("damp", x.damp(1, 0), -9);
            due("judge", x.judge(), -9);
            due("count", x.count(99), -9);
            Bench.refused(x, 0, 0, 0, 0, 0);
        });
        test("37: a FAULT is no refusal", () -> {
            GroutingIsFollowed x = fresh();
            due("kind 1", Bench.tell(x, "z"), -1000);
            due("kind 2", Bench.tell(x, "n30s0;"), -2000);
            Bench.refused(x, 0, 0, 0, 0, 0);
        });
        test("37: REFUSALS of 500 calls", () -> {
            GroutingIsFollowed x = fresh();
            for (int i = 0; i < 500; i++) x.on();
            Bench.refused(x, 0, 0, 500, 0, 0);
        });
    }
}
