/** Every boundary that promises 1 to 3, and of the terms the WALL told in letters, name: a test for each. */
public final class BoundaryWallTest {
    private static final String SIXTEEN_S60 = "s60;".repeat(16);

    public static void main(String[] args) {
        newObject();
        letters();
        shortAndLong();
        faultsOfLetters();
        lacking();
        nodesInStatements();
        waysInStatements();
        peopleInStatements();
        stepsInStatements();
        orderOfStatements();
        whatStatementsLeave();
        whatFaultsLeave();
        Bench.end("boundaries of the wall");
    }

    private static void test(String title, Runnable body) {
        Bench.test(title, body);
    }

    private static void due(String call, long got, long want) {
        Bench.due(call, got, want);
    }

    private static GroutingIsFollowed fresh() {
        return Bench.fresh();
    }

    private static int tell(GroutingIsFollowed x, String text) {
        return Bench.tell(x, text);
    }

    private static GroutingIsFollowed told(String text) {
        return Bench.told(text);
    }

    /** On a new object. */
    private static void wall(String text, int want) {
        due("wall of " + text, tell(fresh(), text), want);
    }

    // ---- 1: a new object ----

    private static void newObject() {
        test("1: all NODES STRAIGHT, the first and the last, too", () -> {
            GroutingIsFollowed x = fresh();
            for (int node = 0; node < 30; node++) due("node(" + node + ", 0)", x.node(node, 0), 0);
            due("kinds(0)", x.kinds(0), 30);
        });
        test("1: FIGURE 0 at first", () -> {
            GroutingIsFollowed x = fresh();
            for (int node = 0; node < 30; node++) due("node(" + node + ", 1)", x.node(node, 1), 0);
            due("count(5)", x.count(5), 0);
        });
        test("1: WET 9 at first", () -> {
            GroutingIsFollowed x = fresh();
            for (int node = 0; node < 30; node++) due("node(" + node + ", 2)", x.node(node, 2), 9);
            due("count(2)", x.count(2), 270);
        });
        test("1: nobody", () -> {
            GroutingIsFollowed x = fresh();
            due("count(0)", x.count(0), 0);
            due("person(0, 0)", x.person(0, 0), -1);
        });
        test("1: STEP 0 at first", () -> due("count(1)", fresh().count(1), 0));
        test("1: no letters", () -> {
            due("count(7)", fresh().count(7), 0);
            due("letter", fresh().letter('s'), 1);
        });
        test("1: no ROW", () -> {
            due("count(6)", fresh().count(6), 0);
            due("row", fresh().row(0), 1);
        });
        test("1: no image", () -> due("on()", fresh().on(), -3));
        test("1: no refusals", () -> Bench.refused(fresh(), 0, 0, 0, 0, 0));
        test("1: one object has nothing of another", () -> {
            GroutingIsFollowed x = told("n00y9;w000;p001;s05;");
            x.row(3);
            x.letter('n');
            x.image();
            x.node(30, 0);
            GroutingIsFollowed y = fresh();
            due("state", Bench.state(y).equals(Bench.state(fresh())) ? 1 : 0, 1);
            due("count(2)", y.count(2), 270);
            due("count(11)", y.count(11), 0);
            due("on()", y.on(), -3);
        });
        test("an object is used for 512 calls: the 512th answers as due", () -> {
            GroutingIsFollowed x = fresh();
            x.comesIn(0, 1);
            for (int call = 2; call < 512; call++) due("call " + call, x.letter(call < 98 ? 's' : -1), call < 98 ? call - 1 : -4);
            due("call 512", x.personThen(0, 60, 2), 10);
        });
    }

    // ---- 2: letter ----

    private static void letters() {
        test("2: a letter below 0", () -> {
            GroutingIsFollowed x = fresh();
            due("letter(-1)", x.letter(-1), -4);
            due("letter(least)", x.letter(Bench.LEAST), -4);
            due("count(7)", x.count(7), 0);
            Bench.refused(x, 0, 0, 0, 2, 0);
        });
        test("2: letter 0, the least", () -> due("letter(0)", fresh().letter(0), 1));
        test("2: letter 255, the greatest", () -> due("letter(255)", fresh().letter(255), 1));
        test("2: a letter above 255", () -> {
            GroutingIsFollowed x = fresh();
            due("letter(256)", x.letter(256), -6);
            due("letter(greatest)", x.letter(Bench.GREATEST), -6);
            due("count(7)", x.count(7), 0);
            Bench.refused(x, 0, 0, 0, 0, 2);
        });
        test("2: 96 letters, no more", () -> {
            GroutingIsFollowed x = fresh();
            Bench.send(x, "s01;".repeat(23) + "s01");
            due("the 96th", x.letter(';'), 96);
            due("the 97th", x.letter('z'), -6);
            due("count(7)", x.count(7), 96);
            Bench.refused(x, 0, 0, 0, 0, 1);
            due("the 97th is not in the wall", x.wall(), 24);
        });
        test("2: with 96 letters one below 0 is -4, the first that fits", () -> {
            GroutingIsFollowed x = fresh();
            Bench.send(x, "n".repeat(96));
            due("letter(-1)", x.letter(-1), -4);
            Bench.refused(x, 0, 0, 0, 1, 0);
        });
        test("2: with 96 letters one above 255 is -6 once", () -> {
            GroutingIsFollowed x = fresh();
            Bench.send(x, "n".repeat(96));
            due("letter(256)", x.letter(256), -6);
            Bench.refused(x, 0, 0, 0, 0, 1);
        });
        test("2: behind a wall of 96 letters 96 come again", () -> {
            GroutingIsFollowed x = told("s01;".repeat(24));
            for (int i = 1; i <= 96; i++) due("letter " + i, x.letter('n'), i);
            due("one more", x.letter('n'), -6);
        });
    }

    // ---- 3: the letters of a wall ----

    private static void shortAndLong() {
        test("3: at least one STATEMENT: no letters", () -> wall("", -1000));
        test("3: one STATEMENT, the fewest", () -> wall("s01;", 1));
        test("3: 24 STATEMENTS of 96 letters, the most", () -> wall("s01;".repeat(24), 24));
        test("3: 96 letters, the last of them amiss", () -> {
            wall("s01;".repeat(23) + "s01:", -1095);
            wall("n00s0;".repeat(15) + "n00s00", -1095);
        });
        test("3: 96 letters, something lacks behind the last", () -> {
            wall("n00s0;".repeat(15) + "w000;n", -1096);
            wall("n00s0;".repeat(15) + "h00;w0", -1096);
        });
        test("3: all 96 letters are looked at", () -> {
            GroutingIsFollowed x = told("n00s0;".repeat(14) + "n28y1;n29b8;");
            due("node(28, 0)", x.node(28, 0), 5);
            due("node(29, 0)", x.node(29, 0), 4);
            due("node(29, 1)", x.node(29, 1), 8);
        });
        test("3: a letter more than 255 apart is no digit", () -> {
            GroutingIsFollowed x = fresh();
            Bench.send(x, "s0");
            due("letter of 256 more", x.letter('1' + 256), -6);
            Bench.send(x, "1;");
            due("wall", x.wall(), 1);
        });
    }

    private static void faultsOfLetters() {
        test("3: the first letter of a STATEMENT: no other than n w p h a s", () -> {
            for (int c = 0; c < 256; c++) {
                GroutingIsFollowed x = fresh();
                x.letter(c);
                due("wall of " + c, x.wall(), "nwphas".indexOf(c) >= 0 ? -1001 : -1000);
            }
        });
        test("3: the first letter of the second STATEMENT", () -> {
            wall("s01;;", -1004);
            wall("s01;1", -1004);
            wall("s01;S01;", -1004);
            wall("n00s0;y", -1006);
        });
        test("3: a letter of a KIND: no other than s l r c b y", () -> {
            for (int c = 0; c < 256; c++) {
                GroutingIsFollowed x = fresh();
                Bench.send(x, "n00");
                x.letter(c);
                due("wall of n00 and " + c, x.wall(), "slrcby".indexOf(c) >= 0 ? -1004 : -1003);
            }
        });
        String[] forms = {"n09s9;", "w099;", "p093;", "h03;", "a009;", "s09;"};
        for (String form : forms) digitsOf(form);
        for (String form : forms) endOf(form);
        test("3: kind 1 goes before kind 2, which is told ahead of it", () -> {
            wall("n99s0;h99;x", -1010);
            wall("s00;s01", -1007);
        });
        test("3: kind 1 of several: the first", () -> wall("s01;xyz;s", -1004));
    }

    /** Each digit of a statement, just below 0 and just above 9. */
    private static void digitsOf(String form) {
        test("3: digits of " + form + " are 0 .. 9", () -> {
            for (int place = 1; place < form.length(); place++) {
                if (form.charAt(place) > '9' || form.charAt(place) < '0') continue;
                for (char c : new char[] {'/', ':', ';', 'o', ' ', (char) 0, (char) 178, (char) 255}) {
                    wall(form.substring(0, place) + c + form.substring(place + 1), -1000 - place);
                }
                wall(form.substring(0, place) + '0', -1001 - place);
                wall(form.substring(0, place) + '9', -1001 - place);
            }
        });
    }

    private static void endOf(String form) {
        test("3: \";\" is behind " + form + ", nothing else, nothing more", () -> {
            int end = form.length() - 1;
            for (char c : new char[] {':', '<', ',', '0', 's', (char) 0, (char) (';' + 128)}) {
                wall(form.substring(0, end) + c, -1000 - end);
            }
            wall(form + ";", -1001 - end);
        });
    }

    private static void lacking() {
        String[] forms = {"n00s0;", "w000;", "p000;", "h00;", "a000;", "s01;"};
        for (String form : forms) {
            test("3: something of " + form + " lacks: the place is the end", () -> {
                for (int n = 1; n < form.length(); n++) {
                    wall(form.substring(0, n), -1000 - n);
                    wall("s01;" + form.substring(0, n), -1004 - n);
                }
            });
        }
    }

    // ---- 3: the statements of a wall ----

    private static void nodesInStatements() {
        test("3: \"n\" of NODE 29, not of 30", () -> {
            wall("n29y9;", 1);
            wall("n30y9;", -2000);
            wall("n99y9;", -2000);
        });
        test("3: \"w\" of NODE 29, not of 30", () -> {
            wall("w290;", 1);
            wall("w300;", -2000);
            wall("w999;", -2000);
        });
        test("3: \"p\" of NODE 29, not of 30", () -> {
            wall("p290;", 1);
            wall("p300;", -2000);
            wall("p990;", -2000);
        });
        test("3: \"a\" of NODE 29, not of 30", () -> {
            wall("p000;a029;", 2);
            wall("p000;a030;", -2005);
            wall("p000;a099;", -2005);
        });
        test("3: NODE 00, the least", () -> {
            GroutingIsFollowed x = told("p290;n00y9;w000;a000;");
            due("node(0, 0)", x.node(0, 0), 5);
            due("node(0, 1)", x.node(0, 1), 9);
            due("node(0, 2)", x.node(0, 2), 0);
            due("person(0, 0)", x.person(0, 0), 0);
        });
        test("3: FIGURE 0 and FIGURE 9", () -> {
            GroutingIsFollowed x = told("n07s9;n08s9;n08s0;");
            due("node(7, 1)", x.node(7, 1), 9);
            due("node(8, 1)", x.node(8, 1), 0);
        });
        test("3: WET 0 and WET 9", () -> {
            GroutingIsFollowed x = told("w070;w080;w089;");
            due("node(7, 2)", x.node(7, 2), 0);
            due("node(8, 2)", x.node(8, 2), 9);
        });
    }

    private static void waysInStatements() {
        test("3: \"p\" of WAY 0 .. 3, not of 4", () -> {
            GroutingIsFollowed x = told("p000;p003;");
            due("person(0, 1)", x.person(0, 1), 0);
            due("person(1, 1)", x.person(1, 1), 3);
            wall("p004;", -2000);
            wall("p009;", -2000);
        });
        test("3: \"h\" of WAY 0 .. 3, not of 4", () -> {
            GroutingIsFollowed x = told("p001;p001;h00;h13;");
            due("person(0, 1)", x.person(0, 1), 0);
            due("person(1, 1)", x.person(1, 1), 3);
            wall("p000;h04;", -2005);
            wall("p000;h09;", -2005);
        });
    }

    private static void peopleInStatements() {
        test("3: 4 of PEOPLE, no room for more", () -> {
            wall("p000;p000;p000;p000;", 4);
            wall("p000;p000;p000;p000;p000;", -2020);
        });
        test("3: no room for more than are there already", () -> {
            GroutingIsFollowed x = told("p000;p000;p000;");
            due("two more", tell(x, "p000;p000;"), -2005);
            due("PEOPLE", x.count(0), 3);
            due("one more", tell(x, "p000;"), 1);
            due("one more than 4", tell(x, "p000;"), -2000);
        });
        test("3: no room goes with a NODE out of range at the same place", () -> wall("p000;p000;p000;p000;p300;", -2020));
        test("3: \"h\": nobody so far with that number", () -> {
            wall("h00;", -2000);
            wall("p000;h00;", 2);
            wall("p000;h10;", -2005);
            wall("p000;p000;p000;p000;h30;", 5);
            wall("p000;p000;p000;p000;h40;", -2020);
            wall("p000;p000;p000;p000;h90;", -2020);
        });
        test("3: \"a\": nobody so far with that number", () -> {
            wall("a000;", -2000);
            wall("p000;a000;", 2);
            wall("p000;a100;", -2005);
            wall("p000;p000;p000;p000;a300;", 5);
            wall("p000;p000;p000;p000;a400;", -2020);
        });
        test("3: so far: one who comes behind it is too late", () -> {
            wall("h00;p000;", -2000);
            wall("p000;a100;p000;", -2005);
        });
        test("3: so far: one who was there ahead of the wall", () -> {
            GroutingIsFollowed x = fresh();
            x.comesIn(7, 2);
            due("wall", tell(x, "h01;a008;"), 2);
            due("wall", tell(x, "h11;"), -2000);
        });
    }

    private static void stepsInStatements() {
        test("3: \"s\" of 0 STEPS", () -> wall("s00;", -2000));
        test("3: \"s\" of 1 STEP, the fewest", () -> {
            GroutingIsFollowed x = told("s01;");
            due("STEP", x.count(1), 1);
        });
        test("3: \"s\" of 60 STEPS, the most", () -> {
            GroutingIsFollowed x = told("s60;");
            due("STEP", x.count(1), 60);
        });
        test("3: \"s\" of 61 STEPS", () -> {
            wall("s61;", -2000);
            wall("s99;", -2000);
        });
        test("3: STEP 999, not above", () -> {
            GroutingIsFollowed x = told(SIXTEEN_S60);
            due("to 1000", tell(x, "s40;"), -2000);
            due("to 999", tell(x, "s39;"), 1);
            due("STEP", x.count(1), 999);
            due("to 1000", tell(x, "s01;"), -2000);
            due("a wall of no STEPS", tell(x, "w005;"), 1);
        });
        test("3: STEP above 999 behind all ahead of it in the text", () -> {
            GroutingIsFollowed x = told(SIXTEEN_S60);
            due("960 and 20 and 20", tell(x, "s20;s20;"), -2004);
            due("STEP", x.count(1), 960);
            due("960 and 20 and 19", tell(x, "s20;s19;"), 2);
            due("STEP", x.count(1), 999);
        });
        test("3: above 999 by one wall alone", () -> wall(SIXTEEN_S60 + "s39;s01;", -2068));
    }

    private static void orderOfStatements() {
        test("3: kind 2 of several: the first", () -> {
            wall("n30s0;w300;", -2000);
            wall("s01;w300;n30s0;", -2004);
        });
        test("3: kind 2 of the last STATEMENT of 96 letters", () -> wall("s01;".repeat(23) + "s00;", -2092));
        test("3: STATEMENTS come in their order", () -> {
            GroutingIsFollowed x = told("w071;w072;n07s1;n07l2;p071;h02;h03;a008;a009;");
            due("node(7, 2)", x.node(7, 2), 2);
            due("node(7, 0)", x.node(7, 0), 1);
            due("node(7, 1)", x.node(7, 1), 2);
            due("person(0, 1)", x.person(0, 1), 3);
            due("person(0, 0)", x.person(0, 0), 9);
        });
        test("3: STEPS go by between the STATEMENTS", () -> {
            GroutingIsFollowed x = told("p001;s01;n01r0;s01;n07y0;");
            due("person(0, 0)", x.person(0, 0), 7);
            due("node(1, 2)", x.node(1, 2), 8);
            due("person(0, 3)", x.person(0, 3), 0);
        });
    }

    private static void whatStatementsLeave() {
        test("3: \"n\" leaves WET as it is", () -> due("node(7, 2)", told("w074;n07y9;").node(7, 2), 4));
        test("3: \"w\" leaves KIND and FIGURE as they are", () -> {
            GroutingIsFollowed x = told("n07y9;w070;");
            due("node(7, 0)", x.node(7, 0), 5);
            due("node(7, 1)", x.node(7, 1), 9);
        });
        test("3: \"h\" leaves where he is and HELPED as they are", () -> {
            GroutingIsFollowed x = told("p050;s01;h03;");
            due("person(0, 0)", x.person(0, 0), 5);
            due("person(0, 1)", x.person(0, 1), 3);
            due("person(0, 2)", x.person(0, 2), 1);
        });
        test("3: \"a\" leaves HEADING and HELPED as they are", () -> {
            GroutingIsFollowed x = told("p050;s01;a017;");
            due("person(0, 0)", x.person(0, 0), 17);
            due("person(0, 1)", x.person(0, 1), 2);
            due("person(0, 2)", x.person(0, 2), 1);
        });
        test("3: \"p\": HELPED 0, by numbers as they come", () -> {
            GroutingIsFollowed x = told("p050;s03;p060;");
            due("person(0, 2)", x.person(0, 2), 1);
            due("person(1, 0)", x.person(1, 0), 6);
            due("person(1, 2)", x.person(1, 2), 0);
        });
        test("3: a WALL leaves the ROW and the image as they are", () -> {
            GroutingIsFollowed x = fresh();
            x.row(9);
            x.image();
            due("wall", tell(x, "w000;s05;"), 2);
            due("count(6)", x.count(6), 1);
            due("on()", x.on(), 0);
            due("node(0, 2)", x.node(0, 2), 9);
        });
    }

    private static void whatFaultsLeave() {
        test("3: with a FAULT of kind 1 nothing comes, letters are no more, nothing is counted", () -> {
            GroutingIsFollowed x = told("p050;s01;");
            String before = Bench.state(x);
            due("wall", tell(x, "n00y9;w000;p001;h03;a029;s07;x"), -1029);
            due("as it was", Bench.state(x).equals(before) ? 1 : 0, 1);
            due("count(7)", x.count(7), 0);
            Bench.refused(x, 0, 0, 0, 0, 0);
        });
        test("3: with a FAULT of kind 2 nothing comes, letters are no more, nothing is counted", () -> {
            GroutingIsFollowed x = told("p050;s01;");
            String before = Bench.state(x);
            due("wall", tell(x, "n00y9;w000;p001;h03;a029;s07;s00;"), -2029);
            due("as it was", Bench.state(x).equals(before) ? 1 : 0, 1);
            due("count(7)", x.count(7), 0);
            Bench.refused(x, 0, 0, 0, 0, 0);
        });
        test("3: without letters nothing comes, nothing is counted", () -> {
            GroutingIsFollowed x = told("p050;s01;");
            String before = Bench.state(x);
            due("wall", x.wall(), -1000);
            due("as it was", Bench.state(x).equals(before) ? 1 : 0, 1);
            Bench.refused(x, 0, 0, 0, 0, 0);
        });
        test("3: what lacks is not there from a longer WALL ahead", () -> {
            GroutingIsFollowed x = told("n00s0;n01s0;");
            due("wall", tell(x, "n00s0"), -1005);
            due("wall", tell(x, "n00s0;n01"), -1009);
            due("wall", tell(x, "n00s0;"), 1);
            due("wall", x.wall(), -1000);
        });
        test("3: behind a FAULT the next WALL begins anew", () -> {
            GroutingIsFollowed x = fresh();
            due("wall", tell(x, "s0"), -1002);
            due("wall", tell(x, "5;"), -1000);
            due("wall", tell(x, "s05;"), 1);
            due("wall", x.wall(), -1000);
            due("STEP", x.count(1), 5);
        });
    }
}
