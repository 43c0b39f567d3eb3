/** Answers worked out by hand, promise by promise: ordinary inputs, edges, refusals. */
public final class PromisesTest {
    private static final long LONG = 4000000000000000000L;
    private static int wrong = 0;
    private static int promise = 0;

    private static void due(String call, long got, long want) {
        if (got != want) {
            wrong++;
            System.out.println("promise " + promise + ": " + call + " answered " + got + ", due is " + want);
        }
    }

    private static void send(GroutingIsFollowed x, String text) {
        for (char c : text.toCharArray()) x.letter(c);
    }

    private static int tell(GroutingIsFollowed x, String text) {
        send(x, text);
        return x.wall();
    }

    private static GroutingIsFollowed told(String text) {
        GroutingIsFollowed x = new GroutingIsFollowed();
        due("wall of " + text, Math.min(tell(x, text), 0), 0);
        return x;
    }

    private static void refusals(GroutingIsFollowed x, int nobody, int other, int state, int below, int room) {
        due("count(11)", x.count(11), nobody);
        due("count(12)", x.count(12), other);
        due("count(13)", x.count(13), state);
        due("count(14)", x.count(14), below);
        due("count(15)", x.count(15), 0);
        due("count(16)", x.count(16), room);
    }

    public static void main(String[] args) {
        newObject();
        letter();
        wallsThatCome();
        wallsWithFaultOfLetters();
        wallsWithFaultOfStatements();
        node();
        person();
        lays();
        wets();
        comesIn();
        heads();
        stands();
        stepsByKinds();
        steps();
        personThen();
        wetThen();
        comes();
        visits();
        stops();
        meets();
        round();
        way();
        begin();
        head();
        damp();
        bestKind();
        dry();
        kinds();
        near();
        two();
        steam();
        mean();
        whatIs();
        row();
        judge();
        clear();
        lots();
        image();
        count();
        lookingChangesNothing();
        faultChangesNothing();
        System.out.println(wrong == 0 ? "promises: all answers are as due" : wrong + " answers are not as due");
        if (wrong != 0) System.exit(1);
    }

    private static void newObject() {
        promise = 1;
        GroutingIsFollowed x = new GroutingIsFollowed();
        for (int n = 0; n < 30; n++) {
            due("node(" + n + ", 0)", x.node(n, 0), 0);
            due("node(" + n + ", 1)", x.node(n, 1), 0);
            due("node(" + n + ", 2)", x.node(n, 2), 9);
        }
        due("person(0, 0)", x.person(0, 0), -1);
        for (int what = 0; what <= 7; what++) due("count(" + what + ")", x.count(what), what == 2 ? 270 : 0);
        refusals(x, 1, 0, 0, 0, 0);
    }

    private static void letter() {
        promise = 2;
        GroutingIsFollowed x = new GroutingIsFollowed();
        due("letter(-1)", x.letter(-1), -4);
        due("letter(256)", x.letter(256), -6);
        due("letter(least)", x.letter(Integer.MIN_VALUE), -4);
        due("letter(most)", x.letter(Integer.MAX_VALUE), -6);
        due("letter(0)", x.letter(0), 1);
        due("letter(255)", x.letter(255), 2);
        for (int i = 3; i <= 96; i++) due("letter " + i, x.letter('n'), i);
        due("letter 97", x.letter('n'), -6);
        due("letter(-1) at 96", x.letter(-1), -4);
        due("letter(256) at 96", x.letter(256), -6);
        due("count(7)", x.count(7), 96);
        refusals(x, 0, 0, 0, 3, 4);
        due("wall", x.wall(), -1000);
        due("letter after wall", x.letter(200), 1);
    }

    private static void wallsThatCome() {
        promise = 3;
        GroutingIsFollowed x = new GroutingIsFollowed();
        due("wall", tell(x, "n29y9;w073;p102;p050;h13;a012;"), 6);
        due("node(29, 0)", x.node(29, 0), 5);
        due("node(29, 1)", x.node(29, 1), 9);
        due("node(7, 2)", x.node(7, 2), 3);
        due("person(0, 0)", x.person(0, 0), 12);
        due("person(0, 1)", x.person(0, 1), 2);
        due("person(1, 0)", x.person(1, 0), 5);
        due("person(1, 1)", x.person(1, 1), 3);
        due("letters are no more", x.count(7), 0);
        due("wall of steps", tell(x, "s01;s60;"), 2);
        due("STEP", x.count(1), 61);
        x = new GroutingIsFollowed();
        due("each kind", tell(x, "n00s1;n01l2;n02r3;n03c4;n04b5;n05y6;"), 6);
        for (int kind = 0; kind < 6; kind++) {
            due("kind of " + kind, x.node(kind, 0), kind);
            due("figure of " + kind, x.node(kind, 1), kind + 1);
        }
        x = new GroutingIsFollowed();
        due("24 statements of 96 letters", tell(x, "s01;s01;s01;s01;s01;s01;s01;s01;s01;s01;s01;s01;"
            + "s01;s01;s01;s01;s01;s01;s01;s01;s01;s01;s01;s01;"), 24);
        due("STEP", x.count(1), 24);
        x = new GroutingIsFollowed();
        due("dries as it goes", tell(x, "p001;s02;w069;"), 3);
        due("person(0, 0)", x.person(0, 0), 2);
        due("node(1, 2)", x.node(1, 2), 8);
        due("node(0, 2)", x.node(0, 2), 9);
    }

    private static void wallsWithFaultOfLetters() {
        promise = 3;
        GroutingIsFollowed x = new GroutingIsFollowed();
        due("no letters", x.wall(), -1000);
        String[] texts = {"z", ";", "N00s0;", "n", "n0", "nx0", "n00", "n00S0;", "n00sx;", "n00s0", "n00s0x", "n00s00;",
            "w00", "w000;w00;", "p00a;", "h0;", "h000;", "a00;", "s1;", "s600;", "n00s0;;", "n99s0;w99", "s00;q", "s01;1"};
        int[] places = {0, 0, 0, 1, 2, 1, 3, 3, 4, 5, 5, 5,
            3, 8, 3, 2, 3, 3, 2, 3, 6, 9, 4, 4};
        for (int i = 0; i < texts.length; i++) {
            due("wall of " + texts[i], tell(x, texts[i]), -1000 - places[i]);
            due("letters are no more", x.count(7), 0);
        }
        x.letter(238);
        due("wall of 238", x.wall(), -1000);
        send(x, "s0");
        x.letter(305 - 256);
        x.letter(187);
        due("wall of s01 and 187", x.wall(), -1003);
        StringBuilder full = new StringBuilder();
        for (int i = 0; i < 15; i++) full.append("n01s0;");
        due("96 letters with one lacking", tell(x, full + "w0999;"), -1094);
        due("96 letters that lack an end", tell(x, full + "n01s00"), -1095);
        due("96 letters that end too soon", tell(x, full + "h00;w0"), -1096);
        due("nothing came of them", x.count(0), 0);
        refusals(x, 0, 0, 0, 0, 0);
    }

    private static void wallsWithFaultOfStatements() {
        promise = 3;
        GroutingIsFollowed x = new GroutingIsFollowed();
        String[] texts = {"n30s0;", "w300;", "p300;", "p004;", "h00;", "a000;", "s00;", "s61;", "w009;n99s0;",
            "p000;h04;", "p000;h10;", "p000;a030;", "p000;a100;", "p000;p000;p000;p000;p000;", "w000;h00;n30s0;"};
        int[] places = {0, 0, 0, 0, 0, 0, 0, 0, 5, 5, 5, 5, 5, 20, 5};
        for (int i = 0; i < texts.length; i++) {
            due("wall of " + texts[i], tell(x, texts[i]), -2000 - places[i]);
            due("nobody came", x.count(0), 0);
            due("nothing dried", x.count(2), 270);
            due("letters are no more", x.count(7), 0);
        }
        refusals(x, 0, 0, 0, 0, 0);
        StringBuilder sixteen = new StringBuilder();
        for (int i = 0; i < 16; i++) sixteen.append("s60;");
        due("960 steps", tell(x, sixteen.toString()), 16);
        due("STEP 1000", tell(x, "s01;s39;"), -2004);
        due("STEP is as it was", x.count(1), 960);
        due("STEP 1000 in one", tell(x, "s40;"), -2000);
        due("STEP 999", tell(x, "s39;"), 1);
        due("STEP", x.count(1), 999);
        due("one more", tell(x, "s01;"), -2000);
    }

    private static void node() {
        promise = 4;
        GroutingIsFollowed x = told("n07b6;w072;");
        due("node(7, 0)", x.node(7, 0), 4);
        due("node(7, 1)", x.node(7, 1), 6);
        due("node(7, 2)", x.node(7, 2), 2);
        due("node(7, 3)", x.node(7, 3), -2);
        due("node(7, -1)", x.node(7, -1), -2);
        due("node(-1, 0)", x.node(-1, 0), -1);
        due("node(30, 9)", x.node(30, 9), -1);
        refusals(x, 2, 2, 0, 0, 0);
    }

    private static void person() {
        promise = 5;
        GroutingIsFollowed x = told("n08c7;n09b0;n10l0;n11r0;n12y0;n13s0;p080;p093;");
        due("person(1, 0)", x.person(1, 0), 9);
        due("person(1, 1)", x.person(1, 1), 3);
        due("person(1, 2)", x.person(1, 2), 0);
        due("BEND in STEP 1", x.person(1, 3), 2);
        due("CHOICE in STEP 1", x.person(0, 3), 0);
        x.wets(8, 0);
        due("WET 0", x.person(0, 3), -9);
        x.wets(8, 1);
        int[] byKind = {1, 0, 2, 1, 0, 3};
        for (int kind = 0; kind < 6; kind++) {
            x.lays(20, kind, 2);
            x.stands(0, 20);
            x.heads(0, 1);
            due("the WAY by kind " + kind, x.person(0, 3), byKind[kind]);
        }
        due("person(0, 4)", x.person(0, 4), -2);
        due("person(0, -1)", x.person(0, -1), -2);
        due("person(2, 4)", x.person(2, 4), -1);
        due("person(-1, 0)", x.person(-1, 0), -1);
        refusals(x, 2, 2, 0, 0, 0);
        x = told("n08c7;n09b0;p082;p092;s03;");
        x.stands(0, 8);
        x.stands(1, 9);
        x.heads(0, 2);
        x.heads(1, 2);
        due("CHOICE in STEP 4", x.person(0, 3), 3);
        due("BEND in STEP 4", x.person(1, 3), 2);
    }

    private static void lays() {
        promise = 6;
        GroutingIsFollowed x = new GroutingIsFollowed();
        due("lays(29, 5, 9)", x.lays(29, 5, 9), 0);
        due("lays(29, 0, 3)", x.lays(29, 0, 3), 59);
        due("lays(29, 1, 0)", x.lays(29, 1, 0), 3);
        due("lays(0, 0, 0)", x.lays(0, 0, 0), 0);
        due("lays(30, 6, -1)", x.lays(30, 6, -1), -1);
        due("lays(-1, 0, 0)", x.lays(-1, 0, 0), -1);
        due("lays(29, 6, -1)", x.lays(29, 6, -1), -2);
        due("lays(29, -1, 10)", x.lays(29, -1, 10), -2);
        due("lays(29, 2, -1)", x.lays(29, 2, -1), -4);
        due("lays(29, 2, 10)", x.lays(29, 2, 10), -6);
        due("nothing changed", x.lays(29, 0, 0), 10);
        refusals(x, 2, 2, 0, 1, 1);
    }

    private static void wets() {
        promise = 7;
        GroutingIsFollowed x = new GroutingIsFollowed();
        due("wets(29, 0)", x.wets(29, 0), 9);
        due("wets(29, 4)", x.wets(29, 4), 0);
        due("wets(29, -1)", x.wets(29, -1), -4);
        due("wets(29, 10)", x.wets(29, 10), -6);
        due("wets(29, 9)", x.wets(29, 9), 4);
        due("wets(30, -1)", x.wets(30, -1), -1);
        due("wets(-1, 10)", x.wets(-1, 10), -1);
        due("count(2)", x.count(2), 270);
        refusals(x, 2, 0, 0, 1, 1);
    }

    private static void comesIn() {
        promise = 8;
        GroutingIsFollowed x = new GroutingIsFollowed();
        due("comesIn(-1, 0)", x.comesIn(-1, 0), -1);
        due("comesIn(30, 0)", x.comesIn(30, 0), -1);
        due("comesIn(0, -1)", x.comesIn(0, -1), -1);
        due("comesIn(0, 4)", x.comesIn(0, 4), -1);
        for (int i = 0; i < 4; i++) due("comesIn " + i, x.comesIn(26 + i, i), i);
        for (int i = 0; i < 4; i++) {
            due("where " + i, x.person(i, 0), 26 + i);
            due("heading " + i, x.person(i, 1), i);
            due("helped " + i, x.person(i, 2), 0);
        }
        due("a fifth", x.comesIn(0, 0), -6);
        due("a fifth nowhere", x.comesIn(30, 0), -1);
        due("a fifth no way", x.comesIn(0, 4), -1);
        due("count(0)", x.count(0), 4);
        refusals(x, 6, 0, 0, 0, 1);
    }

    private static void heads() {
        promise = 9;
        GroutingIsFollowed x = told("p102;p113;");
        due("heads(0, 0)", x.heads(0, 0), 2);
        due("heads(0, 3)", x.heads(0, 3), 0);
        due("person(0, 1)", x.person(0, 1), 3);
        due("person(0, 0)", x.person(0, 0), 10);
        due("heads(0, 4)", x.heads(0, 4), -1);
        due("heads(0, -1)", x.heads(0, -1), -1);
        due("heads(2, 0)", x.heads(2, 0), -1);
        due("heads(-1, 0)", x.heads(-1, 0), -1);
        due("person(1, 1)", x.person(1, 1), 3);
        refusals(x, 4, 0, 0, 0, 0);
    }

    private static void stands() {
        promise = 10;
        GroutingIsFollowed x = told("p102;p113;");
        due("stands(1, 29)", x.stands(1, 29), 11);
        due("stands(1, 0)", x.stands(1, 0), 29);
        due("person(1, 0)", x.person(1, 0), 0);
        due("person(1, 1)", x.person(1, 1), 3);
        due("stands(1, 30)", x.stands(1, 30), -1);
        due("stands(1, -1)", x.stands(1, -1), -1);
        due("stands(2, 0)", x.stands(2, 0), -1);
        due("stands(-1, 0)", x.stands(-1, 0), -1);
        due("person(0, 0)", x.person(0, 0), 10);
        refusals(x, 4, 0, 0, 0, 0);
    }

    private static void oneStep(String what, String text, int node, int heading, int helped) {
        GroutingIsFollowed x = told(text);
        due(what + ": node", x.person(0, 0), node);
        due(what + ": heading", x.person(0, 1), heading);
        due(what + ": helped", x.person(0, 2), helped);
    }

    private static void stepsByKinds() {
        promise = 11;
        oneStep("STRAIGHT up", "p140;s01;", 8, 0, 0);
        oneStep("STRAIGHT right", "p141;s01;", 15, 1, 0);
        oneStep("STRAIGHT down", "p142;s01;", 20, 2, 0);
        oneStep("STRAIGHT left", "p143;s01;", 13, 3, 0);
        oneStep("LEFT of up", "n14l0;p140;s01;", 13, 3, 0);
        oneStep("LEFT of left", "n14l0;p143;s01;", 20, 2, 0);
        oneStep("RIGHT of left", "n14r0;p143;s01;", 8, 0, 0);
        oneStep("RIGHT of up", "n14r0;p140;s01;", 15, 1, 0);
        oneStep("YES of right", "n14y0;p141;s01;", 13, 3, 0);
        oneStep("YES of down", "n14y0;p142;s01;", 8, 0, 0);
        oneStep("BEND in STEP 1", "n14b0;p141;s01;", 8, 0, 0);
        oneStep("BEND in STEP 2", "s01;n14b0;p141;s01;", 15, 1, 0);
        oneStep("CHOICE in STEP 1", "n14c6;p141;s01;", 15, 1, 0);
        oneStep("CHOICE in STEP 2", "s01;n14c6;p141;s01;", 15, 1, 0);
        oneStep("CHOICE in STEP 4", "s03;n14c6;p141;s01;", 20, 2, 0);
        oneStep("CHOICE 7 in STEP 8", "s07;n14c7;p141;s01;", 13, 3, 0);
        oneStep("the edge up", "p020;s01;", 2, 2, 1);
        oneStep("the edge right", "p171;s01;", 17, 3, 1);
        oneStep("the edge down", "p272;s01;", 27, 0, 1);
        oneStep("the edge left", "p123;s01;", 12, 1, 1);
        oneStep("YES at the edge", "n00y0;p001;s01;", 0, 1, 1);
        oneStep("a LEFT way over the edge", "n00l0;p001;s01;", 0, 2, 1);
        oneStep("WET 0", "w140;p142;s04;", 14, 2, 0);
        oneStep("there and back", "p103;s06;", 7, 1, 1);
    }

    private static void steps() {
        promise = 11;
        GroutingIsFollowed x = told("p001;");
        due("steps(1)", x.steps(1), 270);
        due("steps(1), 2 divides it", x.steps(1), 269);
        due("node(1, 2)", x.node(1, 2), 8);
        due("steps(4), one at the edge", x.steps(4), 268);
        due("node(3, 2)", x.node(3, 2), 8);
        due("node(5, 2)", x.node(5, 2), 9);
        due("steps(0)", x.steps(0), -4);
        due("steps(61)", x.steps(61), -6);
        due("STEP", x.count(1), 6);
        x = told("w011;p011;p013;s01;a001;a101;");
        due("the last wetness gone", x.steps(1), 261);
        due("he left", x.person(0, 0), 2);
        due("the other stays", x.person(1, 0), 1);
        due("heading as he was", x.person(1, 1), 3);
        due("not helped", x.person(1, 2), 0);
        x = told("p002;n00y0;");
        for (int i = 0; i < 16; i++) x.steps(60);
        due("helped 99 at most", x.person(0, 2), 99);
        due("nothing left", x.count(2), 270);
        due("STEP", x.count(1), 960);
        due("steps(40) above 999", x.steps(40), -6);
        due("steps(39)", x.steps(39), 270);
        due("STEP", x.count(1), 999);
        due("steps(1) above 999", x.steps(1), -6);
        due("steps(0)", x.steps(0), -4);
        due("steps(-5)", x.steps(Integer.MIN_VALUE), -4);
        due("steps(most)", x.steps(Integer.MAX_VALUE), -6);
        refusals(x, 0, 0, 0, 2, 3);
    }

    private static void personThen() {
        promise = 12;
        GroutingIsFollowed x = told("p001;p293;");
        due("personThen(0, 0, 0)", x.personThen(0, 0, 0), 0);
        due("personThen(0, 5, 0)", x.personThen(0, 5, 0), 5);
        due("personThen(0, 5, 1)", x.personThen(0, 5, 1), 1);
        due("personThen(0, 6, 1)", x.personThen(0, 6, 1), 3);
        due("personThen(0, 6, 2)", x.personThen(0, 6, 2), 1);
        due("personThen(0, 60, 2)", x.personThen(0, 60, 2), 10);
        due("personThen(1, 2, 0)", x.personThen(1, 2, 0), 27);
        due("personThen(2, -1, 0)", x.personThen(2, -1, 0), -1);
        due("personThen(-1, 0, 0)", x.personThen(-1, 0, 0), -1);
        due("personThen(0, -1, 3)", x.personThen(0, -1, 3), -4);
        due("personThen(0, 61, 3)", x.personThen(0, 61, 3), -6);
        due("personThen(0, 60, 3)", x.personThen(0, 60, 3), -2);
        due("personThen(0, 0, -1)", x.personThen(0, 0, -1), -2);
        refusals(x, 2, 2, 0, 1, 1);
        for (int i = 0; i < 16; i++) x.steps(60);
        x.steps(39);
        x.stands(0, 0);
        x.heads(0, 1);
        x.lays(1, 0, 0);
        for (int i = 0; i < 6; i++) x.wets(i, 9);
        due("beyond STEP 999", x.personThen(0, 3, 0), 3);
    }

    private static void wetThen() {
        promise = 13;
        GroutingIsFollowed x = told("p001;w025;");
        due("wetThen(0, 1)", x.wetThen(0, 1), 9);
        due("wetThen(1, 1)", x.wetThen(1, 1), 9);
        due("wetThen(1, 2)", x.wetThen(1, 2), 8);
        due("wetThen(2, 0)", x.wetThen(2, 0), 5);
        due("wetThen(2, 60)", x.wetThen(2, 60), 0);
        due("node(2, 2)", x.node(2, 2), 5);
        due("wetThen(30, -1)", x.wetThen(30, -1), -1);
        due("wetThen(-1, 0)", x.wetThen(-1, 0), -1);
        due("wetThen(2, -1)", x.wetThen(2, -1), -4);
        due("wetThen(2, 61)", x.wetThen(2, 61), -6);
        refusals(x, 2, 0, 0, 1, 1);
    }

    private static void comes() {
        promise = 14;
        GroutingIsFollowed x = told("p001;n05r0;n29y0;");
        due("comes(0, 0)", x.comes(0, 0), 0);
        due("comes(0, 4)", x.comes(0, 4), 4);
        due("comes(0, 29)", x.comes(0, 29), 9);
        due("comes(0, 6)", x.comes(0, 6), -9);
        due("comes(0, 30)", x.comes(0, 30), -1);
        due("comes(0, -1)", x.comes(0, -1), -1);
        due("comes(1, 0)", x.comes(1, 0), -1);
        due("comes(-1, 0)", x.comes(-1, 0), -1);
        refusals(x, 4, 0, 0, 0, 0);
        x = told("n21c2;n23l2;n05r3;p053;p013;");
        due("behind 60", x.comes(0, 9), 60);
        due("there behind 60", x.personThen(0, 60, 0), 9);
        due("not behind 59", x.personThen(0, 59, 0), 15);
        x = told("n06r1;n07b2;n12l3;p002;p152;");
        due("behind 61", x.comes(0, 11), -9);
        x.steps(1);
        due("behind 60", x.comes(0, 11), 60);
        x = told("p001;w036;s08;");
        due("of one who stands there", x.comes(0, x.person(0, 0)), 0);
    }

    private static void visits() {
        promise = 15;
        GroutingIsFollowed x = told("p001;p003;p142;w020;");
        due("visits(0, 0)", x.visits(0, 0), 1);
        due("visits(0, 1)", x.visits(0, 1), 2);
        due("visits(0, 60), stuck", x.visits(0, 60), 3);
        due("visits(1, 1), at the edge", x.visits(1, 1), 1);
        due("visits(1, 2)", x.visits(1, 2), 2);
        due("visits(2, 60)", x.visits(2, 60), 5);
        due("visits(3, -1)", x.visits(3, -1), -1);
        due("visits(-1, 0)", x.visits(-1, 0), -1);
        due("visits(0, -1)", x.visits(0, -1), -4);
        due("visits(0, 61)", x.visits(0, 61), -6);
        refusals(x, 2, 0, 0, 1, 1);
    }

    private static void stops() {
        promise = 16;
        GroutingIsFollowed x = told("p001;p143;w030;p291;w290;");
        due("stops(0)", x.stops(0), 3);
        due("stops(1)", x.stops(1), -9);
        due("stops(2)", x.stops(2), 0);
        due("stops(3)", x.stops(3), -1);
        due("stops(-1)", x.stops(-1), -1);
        refusals(x, 2, 0, 0, 0, 0);
        due("26 gets dry, behind 61", told("n26y0;p293;").stops(0), -9);
        due("26 gets dry, behind 60", told("n26y0;p293;s01;").stops(0), 60);
        due("node 3 gets dry, behind 61", told("p001;w036;s07;").stops(0), -9);
        due("node 3 gets dry, behind 60", told("p001;w036;s08;").stops(0), 60);
        x = told("w011;p011;p013;s01;a001;a101;");
        due("he dries it under the other", x.stops(1), 1);
        due("he comes back to it", x.stops(0), 9);
    }

    private static void meets() {
        promise = 17;
        GroutingIsFollowed x = told("p001;p043;p001;");
        due("meets(0, 1)", x.meets(0, 1), 2);
        due("meets(1, 0)", x.meets(1, 0), 2);
        due("meets(0, 2)", x.meets(0, 2), 0);
        due("past one another", told("p001;p053;").meets(0, 1), -9);
        due("meets(0, 0)", x.meets(0, 0), -1);
        due("meets(0, 3)", x.meets(0, 3), -1);
        due("meets(3, 0)", x.meets(3, 0), -1);
        due("meets(-1, 0)", x.meets(-1, 0), -1);
        due("meets(0, -1)", x.meets(0, -1), -1);
        refusals(x, 5, 0, 0, 0, 0);
        x = told("n01l2;p011;p193;");
        due("behind 60", x.meets(0, 1), 60);
        x = told("n18r3;p182;p073;");
        due("behind 61", x.meets(0, 1), -9);
        x.steps(1);
        due("behind 60", x.meets(0, 1), 60);
        due("not with one dry", told("n01l2;p011;p193;w180;").meets(0, 1), -9);
    }

    private static void round() {
        promise = 18;
        GroutingIsFollowed x = told("p011;p142;p293;w290;p231;");
        due("round(0), a row", x.round(0), 12);
        due("round(1), a column", x.round(1), 10);
        due("round(2), stuck", x.round(2), 1);
        due("goes on and gets stuck", told("p221;w230;").round(0), -9);
        due("round(4)", x.round(4), -1);
        due("round(-1)", x.round(-1), -1);
        refusals(x, 2, 0, 0, 0, 0);
        x = told("n05b3;n04b1;n27l3;n00l3;p051;");
        due("behind 60", x.round(0), 60);
        due("to and fro", told("n00y0;n01y0;p003;").round(0), 2);
    }

    private static void way() {
        promise = 19;
        GroutingIsFollowed x = told("w010;w070;w130;w190;w080;");
        due("way(0, 2, 0), round it", x.way(0, 2, 0), 12);
        due("way(0, 2, 1), round it", x.way(0, 2, 1), 0);
        x.wets(25, 0);
        due("way(0, 2, 0), no way", x.way(0, 2, 0), -9);
        due("way(0, 2, 1)", x.way(0, 2, 1), 1);
        due("way(0, 1, 0), the last is dry", x.way(0, 1, 0), 1);
        due("way(0, 1, 1)", x.way(0, 1, 1), 0);
        due("way(1, 2, 0), the first is dry", x.way(1, 2, 0), -9);
        due("way(1, 2, 1)", x.way(1, 2, 1), 1);
        due("way(7, 7, 0)", x.way(7, 7, 0), 0);
        due("way(7, 7, 1)", x.way(7, 7, 1), 0);
        due("way(6, 8, 1), by 9 or by 1", x.way(6, 8, 1), 1);
        due("way(7, 3, 1), by 13 or 8 or 1", x.way(7, 3, 1), 2);
        due("way(29, 5, 0)", x.way(29, 5, 0), 4);
        due("way(5, 24, 1)", x.way(5, 24, 1), 1);
        due("way(29, 0, 0)", new GroutingIsFollowed().way(29, 0, 0), 9);
        due("over WET 1", told("w011;w060;").way(0, 2, 0), 2);
        due("over WET 1", told("w011;w060;").way(0, 2, 1), 0);
        due("not over the edge", told("w040;w110;").way(5, 6, 0), -9);
        due("way(30, 0, 2)", x.way(30, 0, 2), -1);
        due("way(-1, 0, 0)", x.way(-1, 0, 0), -1);
        due("way(0, 30, 0)", x.way(0, 30, 0), -1);
        due("way(0, -1, 0)", x.way(0, -1, 0), -1);
        due("way(0, 0, 2)", x.way(0, 0, 2), -2);
        due("way(0, 0, -1)", x.way(0, 0, -1), -2);
        refusals(x, 4, 2, 0, 0, 0);
    }

    private static void begin() {
        promise = 20;
        GroutingIsFollowed x = told("n05r0;w010;p171;p000;");
        due("begin(0, 7, 0)", x.begin(0, 7, 0), 2);
        due("begin(0, 7, 1)", x.begin(0, 7, 1), 8);
        due("begin(0, 30, 1)", x.begin(0, 30, 1), 9);
        due("begin(0, 0, 0), the least", x.begin(0, 0, 0), 0);
        due("begin(0, 0, 1)", x.begin(0, 0, 1), 1);
        due("begin(1, 4, 0)", x.begin(1, 4, 0), 24);
        due("begin(1, 4, 1)", x.begin(1, 4, 1), 5);
        due("where he is", x.person(0, 0), 17);
        due("begin(2, -1, 2)", x.begin(2, -1, 2), -1);
        due("begin(-1, 0, 0)", x.begin(-1, 0, 0), -1);
        due("begin(0, -1, 2)", x.begin(0, -1, 2), -4);
        due("begin(0, 31, 2)", x.begin(0, 31, 2), -6);
        due("begin(0, 30, 2)", x.begin(0, 30, 2), -2);
        due("begin(0, 30, -1)", x.begin(0, 30, -1), -2);
        refusals(x, 2, 2, 0, 1, 1);
    }

    private static void head() {
        promise = 21;
        GroutingIsFollowed x = told("p142;");
        due("head(0, 14), already there", x.head(0, 14), 0);
        due("head(0, 8)", x.head(0, 8), 0);
        due("head(0, 15)", x.head(0, 15), 1);
        due("head(0, 26)", x.head(0, 26), 2);
        due("head(0, 12)", x.head(0, 12), 3);
        due("head(0, 0)", x.head(0, 0), -9);
        x.lays(8, 2, 0);
        x.lays(15, 1, 0);
        due("head(0, 9), of two the least", x.head(0, 9), 0);
        x.lays(8, 0, 0);
        due("head(0, 9)", x.head(0, 9), 1);
        due("his heading", x.person(0, 1), 2);
        due("head(0, 30)", x.head(0, 30), -1);
        due("head(0, -1)", x.head(0, -1), -1);
        due("head(1, 0)", x.head(1, 0), -1);
        due("head(-1, 0)", x.head(-1, 0), -1);
        refusals(x, 4, 0, 0, 0, 0);
        due("behind 60", told("n09l3;n06c2;n27l2;p111;w242;").head(0, 12), 1);
        due("behind 61", told("n21b0;n04c2;n22r2;n19r0;p053;p183;").head(0, 28), -9);
        x = told("n21c2;n23l2;n05r3;p050;p013;");
        int soonest = 61;
        int best = -9;
        for (int way = 0; way < 4; way++) {
            x.heads(0, way);
            int behind = x.comes(0, 9);
            if (behind >= 0 && behind < soonest) {
                soonest = behind;
                best = way;
            }
        }
        due("head(0, 9)", x.head(0, 9), best);
    }

    private static void damp() {
        promise = 22;
        GroutingIsFollowed x = told("p001;w030;w060;p121;w120;");
        due("damp(0, 5)", x.damp(0, 5), 3);
        due("damp(0, 2), not yet there", x.damp(0, 2), -9);
        due("damp(0, 0)", x.damp(0, 0), -9);
        due("damp(1, 1)", x.damp(1, 1), 12);
        due("damp, of a wet node", told("p141;w151;").damp(0, 12), 15);
        due("damp, where he is, node 0", told("p001;w000;").damp(0, 5), 0);
        due("damp, nothing lacks", told("p141;").damp(0, 12), -9);
        x.wets(2, 0);
        due("damp(0, 5)", x.damp(0, 5), 2);
        due("node(2, 2)", x.node(2, 2), 0);
        due("damp(2, -1)", x.damp(2, -1), -1);
        due("damp(-1, 0)", x.damp(-1, 0), -1);
        due("damp(0, -1)", x.damp(0, -1), -4);
        due("damp(0, 31)", x.damp(0, 31), -6);
        due("damp(0, 30)", x.damp(0, 30), 2);
        refusals(x, 2, 0, 0, 1, 1);
    }

    private static void bestKind() {
        promise = 23;
        GroutingIsFollowed x = told("p001;n01y0;");
        due("STRAIGHT as good as RIGHT", x.bestKind(1, 0, 4), 0);
        x.wets(2, 0);
        due("RIGHT", x.bestKind(1, 0, 4), 2);
        due("in 0 STEPS", x.bestKind(1, 0, 0), 0);
        due("it is as it was", x.node(1, 0), 5);
        due("CHOICE by its FIGURE", told("p221;w191;").bestKind(21, 0, 20), 3);
        due("BEND", told("p081;w231;").bestKind(11, 0, 20), 4);
        due("YES", told("p221;w230;w040;").bestKind(22, 0, 20), 5);
        due("bestKind(30, 0, -1)", x.bestKind(30, 0, -1), -1);
        due("bestKind(-1, 0, 0)", x.bestKind(-1, 0, 0), -1);
        due("bestKind(0, 1, 31)", x.bestKind(0, 1, 31), -1);
        due("bestKind(0, -1, 0)", x.bestKind(0, -1, 0), -1);
        due("bestKind(0, 0, -1)", x.bestKind(0, 0, -1), -4);
        due("bestKind(0, 0, 31)", x.bestKind(0, 0, 31), -6);
        refusals(x, 4, 0, 0, 1, 1);
    }

    private static void dry() {
        promise = 24;
        GroutingIsFollowed x = new GroutingIsFollowed();
        int[] fresh = {0, 0, 270, -9, 0, 0, 0};
        for (int what = 0; what < 7; what++) due("dry(" + what + ")", x.dry(what), fresh[what]);
        for (int n = 0; n < 30; n++) x.wets(n, 0);
        due("dry(0)", x.dry(0), 30);
        due("dry(1), all dry", x.dry(1), 0);
        due("dry(2)", x.dry(2), 0);
        due("dry(6), all dry", x.dry(6), 0);
        x.wets(17, 4);
        x.wets(21, 4);
        due("dry(0)", x.dry(0), 28);
        due("dry(1), of two the least", x.dry(1), 17);
        due("dry(2)", x.dry(2), 8);
        due("dry(6), of two the least", x.dry(6), 2);
        x.wets(29, 5);
        due("dry(1)", x.dry(1), 29);
        due("dry(6)", x.dry(6), 4);
        x = told("p100;p100;p110;p110;");
        due("dry(3), of all the least", x.dry(3), 0);
        due("dry(4)", x.dry(4), (1 << 10) | (1 << 11));
        due("dry(5)", x.dry(5), 2);
        tell(x, "a010;a210;a310;");
        due("dry(4), four at one", x.dry(4), 1 << 10);
        due("dry(5)", x.dry(5), 0);
        tell(x, "a029;a129;a228;a307;");
        due("dry(4)", x.dry(4), 1 << 29);
        due("dry(5)", x.dry(5), 3);
        tell(x, "a002;a112;a217;a327;");
        due("dry(4)", x.dry(4), 0);
        due("dry(5)", x.dry(5), 4);
        x = told("p080;p051;p231;");
        x.steps(1);
        due("dry(3), of two the least", x.dry(3), 1);
        due("dry(7)", x.dry(7), -2);
        due("dry(-1)", x.dry(-1), -2);
        refusals(x, 0, 2, 0, 0, 0);
    }

    private static void kinds() {
        promise = 25;
        GroutingIsFollowed x = told("n00l0;n01r0;n02r1;n29c2;n28c3;n27c0;n05b0;n06y0;n07y0;");
        int[] many = {21, 1, 2, 3, 1, 2};
        for (int kind = 0; kind < 6; kind++) due("kinds(" + kind + ")", x.kinds(kind), many[kind]);
        due("kinds(6)", x.kinds(6), -2);
        due("kinds(-1)", x.kinds(-1), -2);
        refusals(x, 0, 2, 0, 0, 0);
    }

    private static void near() {
        promise = 26;
        GroutingIsFollowed x = new GroutingIsFollowed();
        due("nobody", x.near(0), -9);
        x = told("p280;p000;");
        due("near(29)", x.near(29), 0);
        due("near(6)", x.near(6), 1);
        due("near(4), of two the least", x.near(4), 0);
        due("near(3)", x.near(3), 1);
        due("near(30)", x.near(30), -1);
        due("near(-1)", x.near(-1), -1);
        due("rows and columns together", told("p050;p240;p140;").near(0), 1);
        refusals(x, 2, 0, 0, 0, 0);
    }

    private static void two() {
        promise = 27;
        GroutingIsFollowed x = told("p071;p083;");
        due("two(0, 1, 0)", x.two(0, 1, 0), 0);
        due("two(0, 1, 2), the first pair", x.two(0, 1, 2), 1);
        due("two(1, 0, 2), the first pair", x.two(1, 0, 2), 1);
        due("two(0, 1, 3)", x.two(0, 1, 3), 10);
        due("two(1, 0, 3)", x.two(1, 0, 3), 1);
        due("two(0, 1, 5)", x.two(0, 1, 5), 10);
        due("both go on", told("p001;p063;").two(0, 1, 2), 11);
        due("both at the edge", told("p051;p292;").two(0, 1, 1), 0);
        due("two(0, 0, -1)", x.two(0, 0, -1), -1);
        due("two(0, 2, 31)", x.two(0, 2, 31), -1);
        due("two(2, 0, 0)", x.two(2, 0, 0), -1);
        due("two(-1, 0, 0)", x.two(-1, 0, 0), -1);
        due("two(0, -1, 0)", x.two(0, -1, 0), -1);
        due("two(0, 1, -1)", x.two(0, 1, -1), -4);
        due("two(0, 1, 31)", x.two(0, 1, 31), -6);
        refusals(x, 5, 0, 0, 1, 1);
    }

    private static void fraction(GroutingIsFollowed x, int node, int n, int t, long above, long below) {
        due("steam at " + node + " in " + n + " by " + t + ", above", x.steam(0, node, n, t, 0), above);
        due("steam at " + node + " in " + n + " by " + t + ", below", x.steam(0, node, n, t, 1), below);
    }

    private static void steam() {
        promise = 28;
        GroutingIsFollowed x = told("p001;");
        fraction(x, 0, 0, 2, 1, 1);
        fraction(x, 1, 0, 2, 0, 1);
        fraction(x, 2, 3, 2, 3, 8);
        fraction(x, 0, 3, 2, 1, 8);
        fraction(x, 1, 2, 3, 4, 9);
        fraction(x, 1, 2, 4, 3, 8);
        fraction(x, 5, 2, 2, 0, 1);
        fraction(x, 5, 5, 20, 2476099, 3200000);
        fraction(x, 0, 7, 20, 1, 1280000000);
        x = told("n00b0;p001;");
        fraction(x, 1, 2, 2, 1, 4);
        fraction(x, 6, 2, 2, 1, 4);
        fraction(x, 0, 2, 2, 1, 2);
        due("nobody, refused first", x.steam(1, 0, -1, 1, 2), LONG + 1);
        due("no such person", x.steam(-1, 0, 0, 2, 0), LONG + 1);
        due("no such node", x.steam(0, 30, -1, 2, 0), LONG + 1);
        due("no such node", x.steam(0, -1, 8, 2, 0), LONG + 1);
        due("n below", x.steam(0, 0, -1, 21, 2), LONG + 4);
        due("t below, n above", x.steam(0, 0, 8, 1, 2), LONG + 4);
        due("t far below", x.steam(0, 0, 0, Integer.MIN_VALUE, 0), LONG + 4);
        due("n above", x.steam(0, 0, 8, 2, 2), LONG + 6);
        due("t above", x.steam(0, 0, 7, 21, 2), LONG + 6);
        due("n far above", x.steam(0, 0, Integer.MAX_VALUE, 2, 0), LONG + 6);
        due("part 2", x.steam(0, 0, 7, 20, 2), LONG + 2);
        due("part -1", x.steam(0, 0, 7, 20, -1), LONG + 2);
        refusals(x, 4, 2, 0, 3, 3);
    }

    private static void mean() {
        promise = 29;
        GroutingIsFollowed x = new GroutingIsFollowed();
        due("mean(0)", x.mean(0), 9);
        due("mean(1)", x.mean(1), 1);
        x.wets(3, 0);
        due("mean(0)", x.mean(0), 87);
        due("mean(1)", x.mean(1), 10);
        for (int n = 0; n < 30; n++) x.wets(n, 0);
        due("mean(0), all dry", x.mean(0), 0);
        due("mean(1), all dry", x.mean(1), 1);
        x.wets(29, 1);
        due("mean(1)", x.mean(1), 30);
        due("mean(2)", x.mean(2), LONG + 2);
        due("mean(-1)", x.mean(-1), LONG + 2);
        refusals(x, 0, 2, 0, 0, 0);
    }

    private static void rows(GroutingIsFollowed x, int... numbers) {
        x.clear();
        for (int v : numbers) x.row(v);
    }

    private static void whatIs() {
        promise = 30;
        GroutingIsFollowed x = told("p001;");
        due("KINDS, no ROW", x.whatIs(0, 0, 0), 63);
        due("FIGURES, no ROW", x.whatIs(0, 0, 1), 1023);
        rows(x, 0, 1);
        due("KINDS, s and c", x.whatIs(0, 0, 0), 9);
        due("KINDS of another node", x.whatIs(29, 0, 0), 63);
        rows(x, 0, 6);
        due("KINDS, r", x.whatIs(0, 0, 0), 4);
        due("FIGURES, none", x.whatIs(0, 0, 1), 0);
        due("the ROW stays", x.count(6), 2);
        rows(x, 1);
        due("KINDS, he is not there", x.whatIs(0, 0, 0), 0);
        rows(x, 0, 99);
        due("KINDS, no such node", x.whatIs(0, 0, 0), 0);
        rows(x, 0, 1, 2, 3, 4, 5, 5, 4, 3, 2, 1, 0, 0, 1, 2, 3);
        due("KINDS of node 20", x.whatIs(20, 0, 0), 63);
        due("KINDS of node 4, a ROW of 16", x.whatIs(4, 0, 0), 1);
        rows(x, 0, 1, 2, 3, 4, 5, 5, 4, 3, 2, 1, 0, 0, 1, 2, 4);
        due("KINDS, the last is not so", x.whatIs(20, 0, 0), 0);
        x = told("s03;n00c0;p001;");
        rows(x, 0, 1);
        due("FIGURES 1, 5, 9", x.whatIs(0, 0, 1), 546);
        rows(x, 0, 6);
        due("FIGURES 2, 6", x.whatIs(0, 0, 1), 68);
        rows(x, 0, 0);
        due("FIGURES, the edges", x.whatIs(0, 0, 1), 1023 - 546 - 68);
        due("it is as it was", 10 * x.node(0, 0) + x.node(0, 1), 30);
        due("whatIs(30, 0, 2)", x.whatIs(30, 0, 2), -1);
        due("whatIs(-1, 0, 0)", x.whatIs(-1, 0, 0), -1);
        due("whatIs(0, 1, 2)", x.whatIs(0, 1, 2), -1);
        due("whatIs(0, -1, 0)", x.whatIs(0, -1, 0), -1);
        due("whatIs(0, 0, 2)", x.whatIs(0, 0, 2), -2);
        due("whatIs(0, 0, -1)", x.whatIs(0, 0, -1), -2);
        refusals(x, 4, 2, 0, 0, 0);
    }

    private static void row() {
        promise = 31;
        GroutingIsFollowed x = new GroutingIsFollowed();
        due("row(-1)", x.row(-1), -4);
        due("row(100)", x.row(100), -6);
        due("row(0)", x.row(0), 1);
        due("row(99)", x.row(99), 2);
        for (int i = 3; i <= 16; i++) due("row " + i, x.row(i), i);
        due("row 17", x.row(1), -6);
        due("row(-1) at 16", x.row(-1), -4);
        due("row(100) at 16", x.row(100), -6);
        due("count(6)", x.count(6), 16);
        refusals(x, 0, 0, 0, 2, 3);
    }

    private static void judge() {
        promise = 32;
        GroutingIsFollowed x = told("w005;w014;w023;");
        due("no ROW", x.judge(), -9);
        rows(x, 5, 4, 3);
        due("all so", x.judge(), -9);
        due("the ROW has none", x.count(6), 0);
        rows(x, 5, 4, 2, 8);
        due("the third", x.judge(), 2);
        due("the ROW has none", x.count(6), 0);
        rows(x, 99);
        due("the first", x.judge(), 0);
        rows(x, 5, 4, 3, 9, 9, 9, 9, 9, 9, 9, 9, 9, 9, 9, 9, 8);
        due("the sixteenth", x.judge(), 15);
        refusals(x, 0, 0, 0, 0, 0);
    }

    private static void clear() {
        promise = 33;
        GroutingIsFollowed x = new GroutingIsFollowed();
        due("clear", x.clear(), 0);
        for (int i = 0; i < 16; i++) x.row(i);
        due("clear", x.clear(), 16);
        due("count(6)", x.count(6), 0);
        due("clear", x.clear(), 0);
        due("row", x.row(3), 1);
    }

    private static int drawn;

    private static int draw(int m) {
        long z = (long) drawn * 1664525L + 1013904223L;
        drawn = (int) (z % 4294967296L);
        long low = ((z % 2147483648L) + 2147483648L) % 2147483648L;
        return (int) (low / 256 % m);
    }

    private static void lotsAsPlaced(String text, int people, int n, int z) {
        GroutingIsFollowed x = told(text);
        int helped = 0;
        int stuck = 0;
        drawn = z;
        for (int bath = 0; bath < n; bath++) {
            GroutingIsFollowed y = told(text);
            for (int p = 0; p < people; p++) {
                y.stands(p, draw(30));
                y.heads(p, draw(4));
            }
            for (int p = 0; p < people; p++) {
                helped += y.personThen(p, 12, 2) - y.person(p, 2);
                if (y.wetThen(y.personThen(p, 12, 0), 12) == 0) stuck++;
            }
        }
        due("lots(" + n + ", " + z + ", 0) of " + text, x.lots(n, z, 0), helped);
        due("lots(" + n + ", " + z + ", 1) of " + text, x.lots(n, z, 1), stuck);
    }

    private static void lots() {
        promise = 34;
        String dries = "w080;w090;w200;w210;n14r1;n15b2;n16c7;";
        int[] seeds = {0, 1, -1, 7, 123456789, Integer.MIN_VALUE, Integer.MAX_VALUE};
        for (int z : seeds) {
            lotsAsPlaced(dries + "p001;", 1, 1, z);
            lotsAsPlaced(dries + "p001;p001;p293;p142;s20;", 4, 20, z);
            lotsAsPlaced("p001;p143;", 2, 5, z);
            lotsAsPlaced(dries, 0, 3, z);
        }
        GroutingIsFollowed x = told("n00y0;p002;");
        for (int i = 0; i < 16; i++) x.steps(60);
        due("helped 99 can't be more", x.lots(20, 5, 0), 0);
        due("lots(0, 0, 2)", x.lots(0, 0, 2), -4);
        due("lots(-1, 0, 2)", x.lots(Integer.MIN_VALUE, 0, 2), -4);
        due("lots(21, 0, 2)", x.lots(21, 0, 2), -6);
        due("lots(20, 0, 2)", x.lots(20, 0, 2), -2);
        due("lots(1, 0, -1)", x.lots(1, 0, -1), -2);
        refusals(x, 0, 2, 0, 2, 1);
    }

    private static void image() {
        promise = 36;
        GroutingIsFollowed x = told("n07r3;w082;p143;s05;");
        due("on, there is none", x.on(), -3);
        promise = 35;
        due("image", x.image(), 5);
        int place = x.person(0, 0);
        int heading = x.person(0, 1);
        int helped = x.person(0, 2);
        int wet = x.count(2);
        x.steps(20);
        x.comesIn(3, 3);
        x.lays(7, 5, 5);
        x.wets(8, 7);
        x.row(3);
        x.letter('s');
        x.on();
        x.steps(7);
        x.row(4);
        promise = 36;
        due("on", x.on(), 5);
        due("STEP", x.count(1), 5);
        due("PEOPLE", x.count(0), 1);
        due("person(0, 0)", x.person(0, 0), place);
        due("person(0, 1)", x.person(0, 1), heading);
        due("person(0, 2)", x.person(0, 2), helped);
        due("node(7, 0)", x.node(7, 0), 2);
        due("node(7, 1)", x.node(7, 1), 3);
        due("node(8, 2)", x.node(8, 2), 2);
        due("ALL WET", x.count(2), wet);
        due("the ROW", x.count(6), 2);
        due("letters", x.count(7), 1);
        due("refusals", x.count(13), 1);
        due("one comes again", x.comesIn(1, 1), 1);
        due("not helped", x.person(1, 2), 0);
        x.steps(3);
        promise = 35;
        due("another image", x.image(), 8);
        x.steps(1);
        due("on from it", x.on(), 8);
        due("PEOPLE", x.count(0), 2);
        refusals(x, 0, 0, 1, 0, 0);
        x = new GroutingIsFollowed();
        due("image of a new one", x.image(), 0);
        tell(x, "p000;n00y9;w000;s09;");
        due("on", x.on(), 0);
        due("nobody", x.count(0), 0);
        due("node(0, 2)", x.node(0, 2), 9);
    }

    private static void count() {
        promise = 37;
        GroutingIsFollowed x = told("n00y9;n29c8;n03s7;w290;w000;p293;p050;p172;s01;");
        send(x, "n12");
        x.row(1);
        due("count(0)", x.count(0), 3);
        due("count(1)", x.count(1), 1);
        due("count(2)", x.count(2), 252);
        due("count(3)", x.count(3), 1);
        due("count(4)", x.count(4), (1 << 29) | 1);
        due("count(5)", x.count(5), 24);
        due("count(6)", x.count(6), 1);
        due("count(7)", x.count(7), 3);
        int[] none = {-1, 8, 9, 10, 17, Integer.MIN_VALUE, Integer.MAX_VALUE};
        for (int what : none) due("count(" + what + ")", x.count(what), -9);
        refusals(x, 0, 0, 0, 0, 0);
        x.node(30, 0);
        x.node(0, 3);
        x.on();
        x.row(-1);
        x.row(100);
        x.mean(2);
        x.steam(0, 0, 8, 2, 0);
        refusals(x, 1, 2, 1, 1, 2);
    }

    private static String all(GroutingIsFollowed x) {
        StringBuilder b = new StringBuilder();
        for (int n = 0; n < 30; n++) b.append(x.node(n, 0)).append(x.node(n, 1)).append(x.node(n, 2)).append(' ');
        for (int p = 0; p < x.count(0); p++) {
            for (int what = 0; what < 4; what++) b.append(x.person(p, what)).append(',');
        }
        for (int what = 0; what < 17; what++) b.append(x.count(what)).append(';');
        return b.toString();
    }

    /** A new object for each use, as one is used for at most 512 calls. */
    private static GroutingIsFollowed busy() {
        GroutingIsFollowed x = told("n01r0;n08c2;n14b0;w081;w152;p001;p142;p293;s07;");
        x.row(0);
        send(x, "n");
        return x;
    }

    private static void lookingChangesNothing() {
        promise = 0;
        GroutingIsFollowed x = busy();
        String before = all(x);
        x.personThen(0, 40, 0);
        x.wetThen(8, 40);
        x.comes(0, 29);
        x.visits(0, 40);
        x.stops(0);
        x.meets(0, 1);
        x.round(0);
        x.way(0, 29, 0);
        x.way(0, 29, 1);
        x.begin(0, 30, 0);
        x.head(0, 29);
        x.damp(0, 30);
        x.bestKind(8, 0, 30);
        for (int what = 0; what < 7; what++) x.dry(what);
        x.kinds(0);
        x.near(3);
        x.two(0, 1, 30);
        x.steam(0, 8, 7, 3, 0);
        x.mean(0);
        x.whatIs(8, 0, 0);
        x.whatIs(8, 0, 1);
        x.lots(20, 99, 0);
        x.image();
        due("all as before looking", all(x).equals(before) ? 1 : 0, 1);
    }

    private static void faultChangesNothing() {
        promise = 3;
        GroutingIsFollowed x = busy();
        String before = all(x);
        due("wall of n01s0;w999;", tell(x, "01s0;w999;"), -2006);
        x.row(5);
        due("letters and ROW are not as before", all(x).equals(before) ? 1 : 0, 0);
        x.clear();
        x.row(0);
        send(x, "n");
        due("a wall with a fault comes not", all(x).equals(before) ? 1 : 0, 1);
    }
}
