/** The Terms' edges of the sea, the line and its pulls, and promises 4 to 8. */
final class EdgesOfSeas {
    private EdgesOfSeas() {
    }

    static void look(Sentences s) {
        settings(s);
        lineOfAll(s);
        rises(s);
        apartWithoutSign(s);
        hangs(s);
        pulls(s);
        parting(s);
        hurting(s);
        jerks(s);
        noLine(s);
        calls(s);
    }

    private static void ends(Sentences s, int what, int least, int most, int first) {
        TowThatJerks x = new TowThatJerks();
        int[] wrong = {least - 1, most + 1, Integer.MIN_VALUE, Integer.MAX_VALUE};
        for (int n : wrong) {
            s.due("set(" + what + ", " + n + ")", x.set(what, n), -1);
        }
        s.due("set(" + what + ", " + least + ")", x.set(what, least), first);
        s.due("set(" + what + ", " + most + ")", x.set(what, most), least);
        s.due("set(" + what + ", " + first + ")", x.set(what, first), most);
    }

    private static void settings(Sentences s) {
        s.says("HEIGHT (0 .. 60)");
        ends(s, 0, 0, 60, 0);
        s.says("LENGTH (4 .. 40 tenths; 20 at first)");
        ends(s, 1, 4, 40, 20);
        s.says("PACE (0 .. 9; 4 at first)");
        ends(s, 2, 0, 9, 4);
        s.says("DEPTH (1 .. 999; 300 at first)");
        ends(s, 3, 1, 999, 300);
        s.says("POINT (0 .. 9; 3 at first)");
        ends(s, 4, 0, 9, 3);
        s.says("RUDDER (0 .. 9; 0 at first)");
        ends(s, 5, 0, 9, 0);
        s.says("DROGUE (0 .. 9; 0)");
        ends(s, 6, 0, 9, 0);
        s.says("6 DROGUE becomes n: what it was. -1.");
        TowThatJerks x = new TowThatJerks();
        s.due("set(-1, 5)", x.set(-1, 5), -1);
        s.due("set(7, 5)", x.set(7, 5), -1);
        s.due("set(6, 5)", x.set(6, 5), 0);
        s.due("set(6, 5)", x.set(6, 5), 5);
    }

    private static void dueLine(Sentences s, String text, int what, int want) {
        s.due("line(" + what + ") of " + text, Checks.towOf(text).line(what), want);
    }

    private static void lineOfAll(Sentences s) {
        s.says("The LINE's FATHOMS, HEFT, GIVE are those of all PIECES together");
        String most = "p2999;p2999;p2999;p2999;p2999;p2999;";
        dueLine(s, "p301;", 0, 1);
        dueLine(s, most, 0, 594);
        dueLine(s, "p301;", 1, 1);
        dueLine(s, most, 1, 8910);
        s.says("GIVE by 100, cut, 1 at least");
        dueLine(s, "p201;", 2, 1);
        dueLine(s, "p2099;", 2, 1);
        dueLine(s, "p2099;p201;", 2, 1);
        dueLine(s, "p2099;p2099;p201;", 2, 1);
        dueLine(s, "p2099;p2099;p202;", 2, 2);
        dueLine(s, "p3999;p3999;p3999;p3999;p3999;p3999;", 2, 291);
    }

    private static void dueApart(Sentences s, String text, int first, int... want) {
        TowThatJerks x = Checks.towOf(text);
        for (int i = 0; i < want.length; i++) {
            int t = first + i;
            s.due("apart(" + t + ") of " + text, x.apart(t), want[i]);
        }
    }

    private static void rises(Sentences s) {
        s.says("with r t modulo LENGTH");
        // Rises 0, 17, 34, 51, 51, 34, 17, and so on again.
        dueApart(s, "p301;s60 7;", 0, 17, 17, 17, 0, 17, 17, 17, 17, 17, 17, 0);
        dueApart(s, "p301;s60 7;", 9998, 17, 0);
        // The other end goes round, too: 594 fathoms are 6 of 7.
        dueApart(s, "p3099;p3099;p3099;p3099;p3099;p3099;s60 7;", 0, 17, 17, 17, 17, 0, 17, 17);
        dueApart(s, "p3021;s60 7;", 0, 0, 0, 0, 0, 0, 0, 0);
        s.says("twice r if that is LENGTH or less, else twice (LENGTH less r)");
        // Rises 0, 30, 60, 30: the second tenth is just LENGTH.
        dueApart(s, "p302;s60 4;", 0, 60, 0, 60, 0);
        // Rises 0, 24, 48, 48, 24: none is just LENGTH.
        dueApart(s, "p301;s60 5;", 0, 24, 24, 0, 24, 24);
        dueApart(s, "p3020;s60 40;", 0, 60, 54);
        s.says("HEIGHT times that by LENGTH, cut");
        // Rises 0, 29, 59, 29, cut of 29.5.
        dueApart(s, "p301;s59 4;", 0, 29, 30, 30, 29);
        dueApart(s, "p301;s1 4;", 0, 0, 1, 1, 0);
        dueApart(s, "p302;s0 4;", 0, 0, 0, 0, 0);
    }

    private static void apartWithoutSign(Sentences s) {
        s.says("RISE at (t and the LINE's FATHOMS), without sign");
        dueApart(s, "p3020;s60 40;", 0, 60);
        dueApart(s, "p3020;s60 40;", 20, 60);
    }

    private static void hangs(Sentences s) {
        s.says("HANG: HEFT by (4 and PACE times PACE), cut");
        dueLine(s, "p303;v0;", 3, 0);
        dueLine(s, "p304;v0;", 3, 1);
        dueLine(s, "p3084;v9;", 3, 0);
        dueLine(s, "p3085;v9;", 3, 1);
        s.says("SLACK: HANG by 4, cut");
        dueLine(s, "p3015;v0;", 4, 0);
        dueLine(s, "p3016;v0;", 4, 1);
        dueLine(s, "p3019;p301;v0;", 4, 1);
        s.says("BASE: 2 PACE times PACE, and HEFT by 10, cut");
        dueLine(s, "p309;v0;", 5, 0);
        dueLine(s, "p3010;v0;", 5, 1);
        dueLine(s, "p309;v9;", 5, 162);
    }

    private static void duePull(Sentences s, String text, int want, int jerks) {
        TowThatJerks x = Checks.towOf(text);
        s.due("pull(0) of " + text, x.pull(0), want);
        s.due("tenth() of " + text, x.tenth(), want);
        s.due("count(3) of " + text, x.count(3), jerks);
    }

    private static void pulls(Sentences s) {
        // Slack 1, base 1, give 6; apart 0, 1 and 2.
        s.says("0 or below: BASE (SLACK)");
        duePull(s, "p3016;s0 15;v0;", 1, 0);
        duePull(s, "p3016;s8 15;v0;", 1, 0);
        s.says("above: BASE, and 20 times over by GIVE, cut");
        duePull(s, "p3016;s15 15;v0;", 1 + 3, 1);
        s.says("(a JERK, also if that adds 0)");
        // Apart 1, no slack, give 39.
        duePull(s, "p3981;s20 40;v9;", 170, 1);
        TowThatJerks x = Checks.towOf("p3981;s20 40;v9;");
        x.tenth();
        s.due("piece(0, 7)", x.piece(0, 7), 3);
    }

    private static void parting(Sentences s) {
        s.says("a PIECE parts, if the PULL is above its STRENGTH less HURT");
        // Heft 1250 and 1262, and the worn one's strength is 125.
        TowThatJerks just = Checks.towOf("p7016;p2978;p4012;v0;");
        s.due("tenth()", just.tenth(), 125);
        s.due("count(1)", just.count(1), 0);
        TowThatJerks above = Checks.towOf("p7016;p2978;p4015;v0;");
        s.due("tenth()", above.tenth(), 126);
        s.due("piece(0, 8)", above.piece(0, 8), 1);
        // Hurt by 1 a strength of 300 no more holds a pull of 300.
        TowThatJerks hurt = Checks.towOf("p0013;p2990;p101;s20 40;v5;");
        s.due("tenth()", hurt.tenth(), 288);
        hurt.set(0, 0);
        hurt.set(2, 9);
        s.due("tenth()", hurt.tenth(), 300);
        s.due("piece(0, 8)", hurt.piece(0, 8), 1);
        TowThatJerks whole = Checks.towOf("p0013;p2990;p101;v9;");
        s.due("tenth()", whole.tenth(), 300);
        s.due("piece(0, 8)", whole.piece(0, 8), 0);
        s.says("the first such alone: the LINE has parted, no PULL more then");
        TowThatJerks both = Checks.towOf("p1010;p4110;s60 40;v0;");
        s.due("tenth()", both.tenth(), 1108);
        s.due("piece(0, 8)", both.piece(0, 8), 1);
        s.due("piece(1, 8)", both.piece(1, 8), 0);
        s.due("count(1)", both.count(1), 1);
        s.due("tenth()", both.tenth(), -3);
        s.due("pull(0)", both.pull(0), -3);
        s.due("count(2)", both.count(2), 1);
        TowThatJerks second = Checks.towOf("p2010;p4910;s30 40;v0;");
        s.due("tenth()", second.tenth(), 490);
        s.due("piece(0, 8)", second.piece(0, 8), 0);
        s.due("piece(1, 8)", second.piece(1, 8), 1);
    }

    private static void hurting(Sentences s) {
        s.says("if none does, by a JERK each PIECE is HURT by its WEAR");
        TowThatJerks jerked = Checks.towOf("p305;p205;p005;p455;p555;p655;s20 40;v0;");
        jerked.tenth();
        int[] want = {3, 0, 1, 3, 1, 8};
        for (int k = 0; k < 6; k++) {
            s.due("piece(" + k + ", 7)", jerked.piece(k, 7), want[k]);
        }
        s.due("count(4)", jerked.count(4), 16);
        TowThatJerks slack = Checks.towOf("p305;p655;");
        slack.tenth();
        s.due("count(4) without a jerk", slack.count(4), 0);
        TowThatJerks parts = Checks.towOf("p1010;p4110;s60 40;v0;");
        parts.tenth();
        s.due("count(4) where one parts", parts.count(4), 0);
    }

    private static void jerks(Sentences s) {
        s.says("JERKS are counted, those that part it, too.");
        TowThatJerks jerk = Checks.towOf("p1010;p4110;s60 40;v0;");
        jerk.tenth();
        s.due("count(3)", jerk.count(3), 1);
        TowThatJerks base = Checks.towOf("p7010;v8;");
        s.due("tenth()", base.tenth(), 130);
        s.due("count(1)", base.count(1), 1);
        s.due("count(3) where its base parts it", base.count(3), 0);
    }

    private static void noLine(Sentences s) {
        s.says("Without PIECES, or when it has parted, there is no LINE.");
        TowThatJerks parted = Checks.towOf("p7010;v9;");
        s.due("line(0)", parted.line(0), 10);
        parted.tenth();
        Checks.read(parted, "p1010;v0;");
        TowThatJerks[] both = {new TowThatJerks(), parted};
        for (TowThatJerks x : both) {
            for (int what = 0; what < 6; what++) {
                s.due("line(" + what + ")", x.line(what), -3);
            }
        }
    }

    private static void calls(Sentences s) {
        TowThatJerks x = Checks.towOf("p301;s60 4;v0;");
        s.says("HANG (3), SLACK (4), BASE (5). -1; -3.");
        s.due("line(-1)", x.line(-1), -1);
        s.due("line(6)", x.line(6), -1);
        s.due("line(5)", x.line(5), 0);
        s.says("APART at a tenth (0 .. 9999). -1; -3.");
        s.due("apart(-1)", x.apart(-1), -1);
        s.due("apart(0)", x.apart(0), 30);
        s.due("apart(9999)", x.apart(9999), 30);
        s.due("apart(10000)", x.apart(10000), -1);
        s.due("apart(0)", new TowThatJerks().apart(0), -3);
        s.says("The PULL at a tenth. -1; -3.");
        s.due("pull(-1)", x.pull(-1), -1);
        s.due("pull(0)", x.pull(0), 600);
        s.due("pull(9999)", x.pull(9999), 600);
        s.due("pull(10000)", x.pull(10000), -1);
        s.due("pull(0)", new TowThatJerks().pull(0), -3);
        s.says("its PULL; the tenth's number is one more. -3.");
        s.due("tenth()", x.tenth(), 600);
        s.due("count(2)", x.count(2), 1);
        s.due("tenth()", x.tenth(), -3);
        s.due("count(2)", x.count(2), 1);
        s.due("tenth()", new TowThatJerks().tenth(), -3);
    }
}
