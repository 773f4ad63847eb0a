/** The edges of whips, winches, legs, why it broke, caravans and told pulls: promises 24 to 30. */
final class EdgesOfWhips {
    /** Pulls 13, 20, 20, 0, 20, 20, 13, and so on again. */
    private static final String SEVEN = "p308;s10 7;v0;";

    private EdgesOfWhips() {
    }

    static void look(Sentences s) {
        whip(s);
        renders(s);
        winch(s);
        legsInRange(s);
        numberOfLegs(s);
        legToSlow(s);
        refusalsOfLegs(s);
        why(s);
        caravan(s);
        judged(s);
        skipped(s);
        refusalsOfJudge(s);
    }

    private static void whip(Sentences s) {
        s.says("STRENGTH times its GIVE (a fathom) times FATHOMS, by 10000, cut.");
        s.due("whip(0) of 600", Checks.towOf("p201;").whip(0), 0);
        s.due("whip(0) of 28800", Checks.towOf("p0024;").whip(0), 2);
        s.due("whip(0) of 30000", Checks.towOf("p0025;").whip(0), 3);
        s.due("whip(0) of 379995", Checks.towOf("p6377;").whip(0), 37);
        s.due("whip(0) of 1212750", Checks.towOf("p3999;").whip(0), 121);
        s.says("WHIP. -1.");
        TowThatJerks x = Checks.towOf("p0025;p3999;v9;");
        s.due("whip(-1)", x.whip(-1), -1);
        s.due("whip(0)", x.whip(0), 3);
        s.due("whip(1)", x.whip(1), 121);
        s.due("whip(2)", x.whip(2), -1);
        s.due("whip(0)", new TowThatJerks().whip(0), -1);
        // No line is wanted, and hurt does not count.
        TowThatJerks parted = Checks.towOf("p7999;s60 4;v0;");
        for (int i = 0; i < 4; i++) {
            parted.tenth();
        }
        s.due("count(1)", parted.count(1), 1);
        s.due("whip(0)", parted.whip(0), 19);
    }

    private static void renders(Sentences s) {
        s.says("how many of LENGTH's tenths have a PULL above n");
        TowThatJerks x = Checks.towOf(SEVEN);
        s.due("renders(0)", x.renders(0), 6);
        s.due("renders(12)", x.renders(12), 6);
        s.due("renders(13)", x.renders(13), 4);
        s.due("renders(19)", x.renders(19), 4);
        s.due("renders(20)", x.renders(20), 0);
        s.due("renders(35) of all", Checks.towOf("p1010;s0 40;").renders(35), 40);
        s.due("renders(36) of none", Checks.towOf("p1010;s0 40;").renders(36), 0);
        s.says("RENDERS by n (0 .. 9999). -1; -3.");
        s.due("renders(-1)", x.renders(-1), -1);
        s.due("renders(9999)", x.renders(9999), 0);
        s.due("renders(10000)", x.renders(10000), -1);
        s.due("renders(0)", new TowThatJerks().renders(0), -3);
    }

    private static void winch(Sentences s) {
        s.says("SET: the least n (0 .. 9999) with which it renders in no more than m of these.");
        TowThatJerks x = Checks.towOf(SEVEN);
        int[][] want = {{0, 20}, {3, 20}, {4, 13}, {5, 13}, {6, 0}, {7, 0}};
        for (int[] pair : want) {
            s.due("winch(" + pair[0] + ")", x.winch(pair[0]), pair[1]);
        }
        TowThatJerks calm = Checks.towOf("p1010;s0 40;");
        s.due("winch(39)", calm.winch(39), 36);
        s.due("winch(40)", calm.winch(40), 0);
        s.due("winch(0) of pulls of 0", Checks.towOf("p301;v0;").winch(0), 0);
        s.says("SET by m (0 .. 40); -4. -1; -3.");
        s.due("winch(-1)", x.winch(-1), -1);
        s.due("winch(0)", x.winch(0), 20);
        s.due("winch(40)", x.winch(40), 0);
        s.due("winch(41)", x.winch(41), -1);
        s.due("winch(0)", new TowThatJerks().winch(0), -3);
        // No pull is above 162 of pace, 891 of heft and 1200 of over.
        s.cannotBeReached("winch", -4);
    }

    private static int legsOf(int what, int... way) {
        TowThatJerks x = Checks.towOf("p1010;");
        Checks.row(x, 0, 0, way);
        return x.legs(0, what);
    }

    private static void legsInRange(Sentences s) {
        s.says("by threes HOURS (1 .. 99), HEIGHT (0 .. 60), PACE (0 .. 9)");
        s.due("legs(0, 1)", legsOf(1, 1, 0, 0), 1);
        s.due("legs(0, 1)", legsOf(1, 99, 60, 9), 99);
        s.due("legs(0, 0)", legsOf(0, 1, 0, 0), 4);
        // Apart 60, no slack.
        s.due("legs(0, 0)", legsOf(0, 99, 60, 9), 166 + 1200);
        int[][] wrong = {{0, 5, 5}, {-1, 5, 5}, {100, 5, 5}, {-128, 5, 5}, {5, -1, 5}, {5, 61, 5}, {5, 127, 5},
            {5, 5, -1}, {5, 5, 10}, {5, 5, 5, 0, 5, 5}, {5, 5, 5, 5, 61, 5}, {5, 5, 5, 5, 5, 10}};
        for (int[] way : wrong) {
            for (int what = 0; what < 3; what++) {
                s.due("legs(0, " + what + ") of " + way[0] + ", ..", legsOf(what, way), -13);
            }
        }
    }

    private static int[] sameLegs(int legs) {
        int[] way = new int[3 * legs];
        for (int leg = 0; leg < legs; leg++) {
            way[3 * leg] = 99;
            way[3 * leg + 2] = 9;
        }
        return way;
    }

    private static void numberOfLegs(Sentences s) {
        s.says("8 legs at most");
        s.due("legs(0, 1) of one", legsOf(1, sameLegs(1)), 99);
        s.due("legs(0, 1) of eight", legsOf(1, sameLegs(8)), 792);
        s.due("legs(0, 1) of nine", legsOf(1, sameLegs(9)), -13);
        s.due("legs(0, 0) of thirty-three", legsOf(0, sameLegs(33)), -13);
    }

    private static void legToSlow(Sentences s) {
        s.says("the leg (from 0) by whose PACE 0 the greatest would be least; of several the first.");
        s.due("legs(0, 2) of one", legsOf(2, 5, 0, 9), 0);
        s.due("legs(0, 2) of all alike", legsOf(2, sameLegs(8)), 0);
        s.due("legs(0, 2) of a faster second", legsOf(2, 5, 0, 8, 5, 0, 9), 1);
        s.due("legs(0, 2) of a faster first", legsOf(2, 5, 0, 9, 5, 0, 8), 0);
        int[] last = sameLegs(8);
        for (int leg = 0; leg < 7; leg++) {
            last[3 * leg + 2] = 8;
        }
        s.due("legs(0, 2) of a faster eighth", legsOf(2, last), 7);
        // By pace 1 both would be 1166, by pace 0 the second is 1164.
        s.due("legs(0, 2) of a pace of 1", legsOf(2, 1, 0, 9, 1, 60, 1), 1);
        s.due("legs(0, 2) of no pace at all", legsOf(2, 5, 0, 0, 5, 0, 0), 0);
    }

    private static void refusalsOfLegs(Sentences s) {
        s.says("-1, -11, -12 (no ROW of bytes), -13 (empty, no threes, not as told); -3.");
        TowThatJerks x = Checks.towOf("p1010;");
        Checks.row(x, 0, 0, 5, 0, 3);
        int[][] wrong = {{-1, 0}, {8, 0}, {0, -1}, {0, 3}};
        for (int[] w : wrong) {
            s.due("legs(" + w[0] + ", " + w[1] + ")", x.legs(w[0], w[1]), -1);
        }
        s.due("legs(1, 0)", x.legs(1, 0), -11);
        x.keep(1, 1, 0);
        s.due("legs(1, 0) of a piece", x.legs(1, 0), -12);
        Checks.row(x, 1, 1, 5, 0, 3);
        s.due("legs(1, 0) of shorts", x.legs(1, 0), -12);
        Checks.row(x, 1, 2, 5, 0, 3);
        s.due("legs(1, 0) of ints", x.legs(1, 0), -12);
        s.due("legs(0, 0) of none", legsOf(0), -13);
        s.due("legs(0, 0) of one byte", legsOf(0, 5), -13);
        s.due("legs(0, 0) of two bytes", legsOf(0, 5, 0), -13);
        s.due("legs(0, 0) of four bytes", legsOf(0, 5, 0, 3, 5), -13);
        s.due("legs(0, 0) of five bytes", legsOf(0, 5, 0, 3, 5, 0), -13);
        TowThatJerks none = new TowThatJerks();
        Checks.row(none, 0, 0, 5, 0, 3);
        s.due("legs(0, 1)", none.legs(0, 1), -3);
    }

    private static void why(Sentences s) {
        s.says("WHY a PIECE PARTED: 0 its HURT was 0;");
        TowThatJerks whole = Checks.towOf("p1010;p4110;s60 40;v0;");
        whole.tenth();
        s.due("why(0)", whole.why(0), 0);
        s.says("else 1, if the PULL was no more than its STRENGTH, 2 if it was more;");
        // Hurt by 1: a pull of just 300, and one of 301, and a strength of 300.
        s.due("why(0)", whyOfHurt("p0013;p2990;p101;s20 40;v5;", 300), 1);
        s.due("why(0)", whyOfHurt("p0013;p2990;p104;s20 40;v5;", 301), 2);
        s.says("-4 it did not part.");
        s.due("why(1)", whole.why(1), -4);
        s.due("why(0)", Checks.towOf("p1010;").why(0), -4);
        s.says("WHY; -4. -1.");
        s.due("why(-1)", whole.why(-1), -1);
        s.due("why(2)", whole.why(2), -1);
        s.due("why(0)", new TowThatJerks().why(0), -1);
    }

    /** A jerk hurts it by 1; then the base alone is as told. */
    private static int whyOfHurt(String text, int base) {
        TowThatJerks x = Checks.towOf(text);
        x.tenth();
        x.set(0, 0);
        x.set(2, 9);
        return x.piece(0, 7) == 1 && x.tenth() == base ? x.why(0) : -99;
    }

    private static void caravan(Sentences s) {
        s.says("of n (1 .. 9) towed ones");
        TowThatJerks x = Checks.towOf("a-45;");
        s.due("caravan(0)", x.caravan(0), -1000000001);
        s.due("caravan(1)", x.caravan(1), -45);
        s.due("caravan(2)", x.caravan(2), -49);
        s.due("caravan(10)", x.caravan(10), -1000000001);
        s.due("caravan(9) of 0", new TowThatJerks().caravan(9), 0);
        s.says("times (POINT and 8) by 10, cut (held as ANGLE is): the last one's.");
        // 999.6, 1001.3 and 997.9.
        s.due("caravan(2)", Checks.towOf("a+588;y900;").caravan(2), 999);
        s.due("caravan(2)", Checks.towOf("a+589;y900;").caravan(2), 999);
        s.due("caravan(2)", Checks.towOf("a+587;y900;").caravan(2), 997);
        s.due("caravan(9)", Checks.towOf("a+999;y900;").caravan(9), 999);
        s.due("caravan(2)", Checks.towOf("a-588;y900;").caravan(2), -999);
        s.due("caravan(9)", Checks.towOf("a-999;y900;").caravan(9), -999);
        s.due("caravan(2)", Checks.towOf("a+1;y000;").caravan(2), 0);
        s.due("caravan(2)", Checks.towOf("a-1;y000;").caravan(2), 0);
        s.due("caravan(9)", Checks.towOf("a-7;y000;").caravan(9), 0);
        s.due("caravan(9)", Checks.towOf("a-7;y200;").caravan(9), -7);
        s.says("CARAVAN. -1000000001.");
        s.due("caravan(-1)", x.caravan(-1), -1000000001);
    }

    private static void dueJudged(Sentences s, int want, int sort, int... pulls) {
        TowThatJerks x = Checks.towOf(SEVEN);
        Checks.row(x, 0, sort, pulls);
        s.due("judge(0) of sort " + sort, x.judge(0), want);
    }

    private static void judged(Sentences s) {
        s.says("PULLS of tenths 0, 1, .. as PIECES are told: the first that isn't so");
        int[] hundred = new int[100];
        int[] seven = {13, 20, 20, 0, 20, 20, 13};
        for (int t = 0; t < 100; t++) {
            hundred[t] = seven[t % 7];
        }
        int[] lastWrong = hundred.clone();
        lastWrong[99] = 21;
        for (int sort = 0; sort < 3; sort++) {
            dueJudged(s, -4, sort);
            dueJudged(s, -4, sort, 13);
            dueJudged(s, 0, sort, 12);
            dueJudged(s, 0, sort, 14, 21);
            dueJudged(s, -4, sort, hundred);
            dueJudged(s, 99, sort, lastWrong);
        }
        // It goes by the tenths of the sea, not by that now, and nothing parts in it.
        TowThatJerks later = Checks.towOf("p1010;p4110;s60 40;v0;");
        Checks.row(later, 0, 1, 1108, 988);
        s.due("judge(0)", later.judge(0), -4);
        TowThatJerks passed = Checks.towOf(SEVEN);
        passed.tenth();
        Checks.row(passed, 0, 0, seven);
        s.due("judge(0)", passed.judge(0), -4);
        // Lowest bits of a pull are another number: 297 and 41.
        TowThatJerks great = Checks.towOf("p2999;p2999;v0;");
        Checks.row(great, 0, 0, 297);
        s.due("judge(0)", great.judge(0), 0);
    }

    private static void skipped(Sentences s) {
        s.says("(the least number of the SORT is skipped); -4.");
        int[] least = {-128, -32768, Integer.MIN_VALUE};
        for (int sort = 0; sort < 3; sort++) {
            dueJudged(s, -4, sort, least[sort]);
            dueJudged(s, -4, sort, 13, least[sort], 20);
            dueJudged(s, 2, sort, least[sort], least[sort], 19);
            dueJudged(s, 1, sort, 13, least[sort] + 1);
        }
        dueJudged(s, 1, 1, 13, -128, 20);
        dueJudged(s, 1, 2, 13, -32768, 20);
    }

    private static void refusalsOfJudge(Sentences s) {
        s.says("JUDGED by the ROW in SHELF d; -4. -1, -11, -12 (no ROW); -3.");
        TowThatJerks x = Checks.towOf(SEVEN);
        s.due("judge(-1)", x.judge(-1), -1);
        s.due("judge(8)", x.judge(8), -1);
        s.due("judge(0)", x.judge(0), -11);
        x.keep(0, 1, 0);
        s.due("judge(0)", x.judge(0), -12);
        x.row(0, 0, 0);
        s.due("judge(0)", x.judge(0), -4);
        TowThatJerks none = new TowThatJerks();
        none.row(0, 0, 0);
        s.due("judge(0)", none.judge(0), -3);
    }
}
