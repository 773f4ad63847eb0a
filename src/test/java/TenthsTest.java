/** Promises 6 to 14: apart, pulls, tenths, and what is reckoned in mind of them. */
public final class TenthsTest {
    private static final Checks C = new Checks("TenthsTest");
    /** 35 fathoms, heft 35, give 14, slack 2, base 3; a rise of 4 a tenth up to 40. */
    private static final String NYLON = "p3035;s40 20;v0;";
    /** Apart by 2, 3, 3, 0, 3, 3, 2; slack 0, base 0, give 3. */
    private static final String SEVEN = "p308;s10 7;v0;";
    /** Pulls 308 at tenths 0, 20, ..; fifteen of twenty tenths jerk; the chafed one is hurt by 3 each. */
    private static final String CHAFES = "p1010;p4110;s20 40;v0;";

    public static void main(String[] args) {
        apart();
        pulls();
        greatest();
        calmTenths();
        jerkThatAddsNothing();
        sixAreHurt();
        firstOneParts();
        wearsAndParts();
        holdsInMind();
        holdsBySeas();
        fastest();
        longer();
        stock();
        bridge();
        withoutLine();
        C.end();
    }

    private static void apart() {
        TowThatJerks x = Checks.towOf(NYLON);
        int[][] want = {{0, 20}, {2, 4}, {3, 4}, {5, 20}, {10, 20}, {12, 4}, {13, 4}, {20, 20}, {9980, 20}};
        for (int[] pair : want) {
            C.due("apart(" + pair[0] + ")", x.apart(pair[0]), pair[1]);
        }
        C.due("apart(-1)", x.apart(-1), -1);
        C.due("apart(10000)", x.apart(10000), -1);
        C.due("apart(9999)", x.apart(9999), x.apart(19));
        TowThatJerks odd = Checks.towOf(SEVEN);
        int[] odds = {2, 3, 3, 0, 3, 3, 2, 2, 3};
        for (int t = 0; t < odds.length; t++) {
            C.due("apart(" + t + ") by seven", odd.apart(t), odds[t]);
        }
    }

    private static void pulls() {
        TowThatJerks x = Checks.towOf(NYLON);
        C.due("pull(0)", x.pull(0), 28);
        C.due("pull(2)", x.pull(2), 5);
        C.due("pull(9980)", x.pull(9980), 28);
        C.due("pull(-1)", x.pull(-1), -1);
        C.due("pull(10000)", x.pull(10000), -1);
        x.set(0, 0);
        C.due("pull in a calm sea", x.pull(0), 3);
        C.due("over by 1", Checks.towOf("p308;s4 7;v0;").pull(0), 6);
        C.due("no tenth went by", x.count(2), 0);
    }

    private static void greatest() {
        TowThatJerks x = Checks.towOf(SEVEN);
        C.due("greatest(0)", x.greatest(0), 20);
        C.due("greatest(1)", x.greatest(1), 1);
        C.due("the least of several tenths", Checks.towOf(NYLON).greatest(1), 0);
        C.due("the least of all tenths", Checks.towOf("p301;v0;").greatest(1), 0);
        C.due("a line that pulls nothing", Checks.towOf("p301;v0;").greatest(0), 0);
        C.due("greatest(-1)", x.greatest(-1), -1);
        C.due("greatest(2)", x.greatest(2), -1);
        // Nothing parts in it, however great it is.
        TowThatJerks great = Checks.towOf("p1010;p1010;s60 40;v0;");
        C.due("greatest above all strength", great.greatest(0), 8 + 20 * 55);
    }

    private static void calmTenths() {
        TowThatJerks x = Checks.towOf("p3035;v5;");
        C.due("tenth()", x.tenth(), 53);
        C.due("tenth()", x.tenth(), 53);
        C.due("number", x.count(2), 2);
        C.due("jerks", x.count(3), 0);
        C.due("hurt", x.count(4), 0);
        // The base alone parts it too.
        TowThatJerks base = Checks.towOf("p7010;v8;");
        C.due("base above strength", base.tenth(), 130);
        C.due("it parted", base.count(1), 1);
        C.due("by no jerk", base.count(3), 0);
        C.due("why", base.why(0), 0);
        TowThatJerks even = Checks.towOf("p7010;p2966;p3921;v0;");
        C.due("line of strength 125, pull below", even.tenth(), 103);
        TowThatJerks just = Checks.towOf("p7016;p2978;p4012;v0;");
        C.due("a pull no more than its strength", just.tenth(), 125);
        C.due("parts nothing", just.count(1), 0);
    }

    private static void jerkThatAddsNothing() {
        TowThatJerks x = Checks.towOf("p3981;s20 40;v9;");
        C.due("slack", x.line(4), 0);
        C.due("apart", x.apart(0), 1);
        C.due("a jerk that adds nothing", x.tenth(), 170);
        C.due("is counted", x.count(3), 1);
        C.due("and hurts", x.piece(0, 7), 3);
    }

    private static void sixAreHurt() {
        TowThatJerks x = Checks.towOf("p305;p205;p005;p455;p555;p655;s20 40;v0;");
        x.tenth();
        C.due("a jerk", x.count(3), 1);
        int[] want = {3, 0, 1, 3, 1, 8};
        for (int k = 0; k < 6; k++) {
            C.due("hurt of piece " + k, x.piece(k, 7), want[k]);
        }
        C.due("all hurt", x.count(4), 16);
    }

    private static void firstOneParts() {
        TowThatJerks x = Checks.towOf("p1010;p4110;s60 40;v0;");
        C.due("a pull above both", x.tenth(), 8 + 20 * 55);
        C.due("the first parts", x.piece(0, 8), 1);
        C.due("the other does not", x.piece(1, 8), 0);
        C.due("one parted", x.count(1), 1);
        C.due("no hurt", x.count(4), 0);
        C.due("the jerk counts", x.count(3), 1);
        C.due("the tenth counts", x.count(2), 1);
        C.due("no tenth more", x.tenth(), -3);
        C.due("number stays", x.count(2), 1);
        C.due("a piece more is read", Checks.read(x, "p0010;"), 1);
        C.due("and helps nothing", x.tenth(), -3);
    }

    private static void wearsAndParts() {
        TowThatJerks x = Checks.towOf(CHAFES);
        C.due("first pull", x.tenth(), 308);
        C.due("second pull", x.tenth(), 268);
        C.due("wire's hurt", x.piece(0, 7), 2);
        C.due("chafed one's hurt", x.piece(1, 7), 6);
        for (int i = 2; i < 80; i++) {
            x.tenth();
        }
        C.due("nothing parted", x.count(1), 0);
        C.due("jerks of 80", x.count(3), 60);
        C.due("the tenth that parts", x.tenth(), 308);
        C.due("the second parted", x.piece(1, 8), 1);
        C.due("the first did not", x.piece(0, 8), 0);
        C.due("jerks", x.count(3), 61);
        C.due("number", x.count(2), 81);
        C.due("hurt of all", x.count(4), 240);
        C.due("why", x.why(1), 1);
        C.due("why of the other", x.why(0), -4);
    }

    private static void holdsInMind() {
        TowThatJerks x = Checks.towOf(CHAFES);
        C.due("holds(80, 0)", x.holds(80, 0), 1);
        C.due("holds(80, 1)", x.holds(80, 1), -4);
        C.due("holds(80, 2)", x.holds(80, 2), -4);
        C.due("holds(81, 0)", x.holds(81, 0), 0);
        C.due("holds(81, 1)", x.holds(81, 1), 80);
        C.due("holds(81, 2)", x.holds(81, 2), 1);
        C.due("holds(400, 1)", x.holds(400, 1), 80);
        C.due("holds(0, 0)", x.holds(0, 0), 1);
        C.due("holds(0, 1)", x.holds(0, 1), -4);
        C.due("holds(-1, 0)", x.holds(-1, 0), -1);
        C.due("holds(401, 0)", x.holds(401, 0), -1);
        C.due("holds(1, -1)", x.holds(1, -1), -1);
        C.due("holds(1, 3)", x.holds(1, 3), -1);
        C.due("nothing stays", x.count(2) + x.count(3) + x.count(4) + x.count(1), 0);
        for (int i = 0; i < 23; i++) {
            x.tenth();
        }
        C.due("holds(57, 0) from tenth 23", x.holds(57, 0), 1);
        C.due("holds(58, 1) from tenth 23", x.holds(58, 1), 57);
        C.due("hurt stays", x.piece(1, 7), 3 * 18);
    }

    private static void holdsBySeas() {
        TowThatJerks x = Checks.towOf("p7999;s60 4;v0;");
        C.due("the first tenth counts as 0", x.holds(400, 1), 3);
        x.tenth();
        x.tenth();
        C.due("from now on", x.holds(400, 1), 1);
        C.due("the first piece", x.holds(400, 2), 0);
    }

    private static void fastest() {
        TowThatJerks x = Checks.towOf("p7010;");
        C.due("fastest(1)", x.fastest(1), 7);
        C.due("fastest(400)", x.fastest(400), 7);
        C.due("fastest(0)", x.fastest(0), 9);
        C.due("fastest(-1)", x.fastest(-1), -1);
        C.due("fastest(401)", x.fastest(401), -1);
        C.due("the pace stays", x.set(2, 4), 4);
        TowThatJerks heavy = Checks.towOf("p7010;p2999;");
        C.due("none", heavy.fastest(1), -4);
        C.due("pace 0 alone", Checks.towOf("p7016;p2978;p4010;").fastest(1), 0);
        C.due("none of no tenths", heavy.fastest(0), 9);
        // By pace 0 the chafed one parts in tenth 80, and faster it is worse.
        TowThatJerks chafes = Checks.towOf(CHAFES);
        C.due("fastest(81)", chafes.fastest(81), -4);
        int most = chafes.fastest(40);
        chafes.set(2, most);
        C.due("it holds at that pace", chafes.holds(40, 0), 1);
        chafes.set(2, most + 1);
        C.due("not at one more", chafes.holds(40, 0), 0);
    }

    private static void longer() {
        TowThatJerks x = Checks.towOf(NYLON);
        int[][] want = {{9999, 0}, {28, 0}, {27, 1}, {22, 2}, {16, 3}, {10, 4}, {5, 4}, {4, 5}, {3, -4}, {0, -4}};
        for (int[] pair : want) {
            C.due("longer(0, " + pair[0] + ")", x.longer(0, pair[0]), pair[1]);
        }
        C.due("fathoms stay", x.piece(0, 1), 35);
        C.due("longer(-1, 5)", x.longer(-1, 5), -1);
        C.due("longer(1, 5)", x.longer(1, 5), -1);
        C.due("longer(0, -1)", x.longer(0, -1), -1);
        C.due("longer(0, 10000)", x.longer(0, 10000), -1);
        // In mind a piece may have more than 99 fathoms.
        C.due("longer of 99", Checks.towOf("p3099;s40 40;v0;").longer(0, 12), 16);
        TowThatJerks second = Checks.towOf("p205;p3030;s40 20;v0;");
        C.due("fathoms of the second", second.longer(1, 7), 4);
        TowThatJerks parted = Checks.towOf("p7010;v9;");
        parted.tenth();
        C.due("a number out of range goes ahead", parted.longer(0, 10000), -1);
        C.due("parted", parted.longer(0, 5), -3);
    }

    private static void stock() {
        TowThatJerks x = Checks.towOf("p1030;p105;p1015;s40 20;");
        C.due("stock(999, 0)", x.stock(999, 0), 6);
        C.due("stock(999, 1)", x.stock(999, 1), 40);
        C.due("stock(20, 0)", x.stock(20, 0), 6);
        C.due("stock(19, 0)", x.stock(19, 0), 2);
        C.due("stock(19, 1)", x.stock(19, 1), 434);
        C.due("stock(4, 0)", x.stock(4, 0), -4);
        C.due("stock(4, 1)", x.stock(4, 1), -4);
        C.due("stock(0, 0)", x.stock(0, 0), -1);
        C.due("stock(1000, 0)", x.stock(1000, 0), -1);
        C.due("stock(5, -1)", x.stock(5, -1), -1);
        C.due("stock(5, 2)", x.stock(5, 2), -1);
        TowThatJerks same = Checks.towOf("p1010;p1010;p1010;");
        C.due("of several the least as bits", same.stock(999, 0), 1);
        C.due("its greatest", same.stock(10, 1), 36);
        TowThatJerks parted = Checks.towOf("p7010;p1010;v9;");
        parted.tenth();
        C.due("not the parted one", parted.stock(999, 0), 2);
        C.due("its greatest", parted.stock(999, 1), 166);
        C.due("of no pieces", new TowThatJerks().stock(999, 0), -4);
        C.due("stock(1, 0)", Checks.towOf("p301;").stock(1, 0), 1);
    }

    private static void bridge() {
        TowThatJerks x = Checks.towOf(NYLON);
        C.due("bridge(3, 5)", x.bridge(3, 5), 24);
        // 45 fathoms: apart 20 still, give 14, slack 5, base 9.
        C.due("bridge(2, 10)", x.bridge(2, 10), 28 - (9 + 20 * 15 / 14));
        C.due("nothing stays", x.count(0), 1);
        C.due("nothing stays", x.greatest(0), 28);
        int[][] wrong = {{-1, 5}, {8, 5}, {0, 0}, {0, 100}};
        for (int[] pair : wrong) {
            C.due("bridge(" + pair[0] + ", " + pair[1] + ")", x.bridge(pair[0], pair[1]), Checks.LOWER - 1);
        }
        TowThatJerks six = Checks.towOf("p3010;p305;p305;p305;p305;p305;s40 20;v0;");
        C.due("a seventh", six.bridge(3, 5), 24);
        // A worse line answers below 0.
        C.due("a heavy one", Checks.towOf("p3035;v0;").bridge(2, 99), 3 - 62);
    }

    private static void withoutLine() {
        TowThatJerks none = new TowThatJerks();
        TowThatJerks parted = Checks.towOf("p7010;v9;");
        parted.tenth();
        TowThatJerks[] both = {none, parted};
        for (TowThatJerks x : both) {
            C.due("apart without", x.apart(0), -3);
            C.due("apart out of range", x.apart(-1), -1);
            C.due("pull without", x.pull(0), -3);
            C.due("pull out of range", x.pull(10000), -1);
            C.due("tenth without", x.tenth(), -3);
            C.due("greatest without", x.greatest(0), -3);
            C.due("greatest out of range", x.greatest(2), -1);
            C.due("holds without", x.holds(0, 0), -3);
            C.due("holds out of range", x.holds(401, 0), -1);
            C.due("fastest without", x.fastest(0), -3);
            C.due("fastest out of range", x.fastest(-1), -1);
            C.due("bridge without", x.bridge(0, 1), Checks.LOWER - 3);
            C.due("bridge out of range", x.bridge(8, 1), Checks.LOWER - 1);
        }
    }
}
