/** Promises 24 to 30: whips, winches, legs, why it broke, caravans, told pulls. */
public final class WhipsTest {
    private static final Checks C = new Checks("WhipsTest");
    /** Pulls 13, 20, 20, 0, 20, 20, 13. */
    private static final String SEVEN = "p308;s10 7;v0;";

    public static void main(String[] args) {
        whips();
        renders();
        winches();
        legs();
        legsNotAsTold();
        why();
        whyOfJustItsStrength();
        caravans();
        judged();
        refusalsOfJudge();
        C.end();
    }

    private static void whips() {
        TowThatJerks x = Checks.towOf("p7999;p3999;p291;p0083;p0084;");
        C.due("whip of worn", x.whip(0), 19);
        C.due("whip of nylon", x.whip(1), 121);
        C.due("whip of chain", x.whip(2), 0);
        C.due("whip of 83", x.whip(3), 9);
        C.due("whip of 84", x.whip(4), 10);
        TowThatJerks near = Checks.towOf("p0075;p6377;");
        C.due("whip of 90000", near.whip(0), 9);
        C.due("whip of 379995", near.whip(1), 37);
        C.due("whip(-1)", x.whip(-1), -1);
        C.due("whip(5)", x.whip(5), -1);
        // Hurt counts nothing, and no line is wanted.
        TowThatJerks parted = Checks.towOf("p7999;s60 4;v0;");
        for (int i = 0; i < 4; i++) {
            parted.tenth();
        }
        C.due("whip of a hurt one that parted", parted.whip(0), 19);
    }

    private static void renders() {
        TowThatJerks x = Checks.towOf(SEVEN);
        int[][] want = {{0, 6}, {12, 6}, {13, 4}, {19, 4}, {20, 0}, {9999, 0}, {-1, -1}, {10000, -1}};
        for (int[] pair : want) {
            C.due("renders(" + pair[0] + ")", x.renders(pair[0]), pair[1]);
        }
    }

    private static void winches() {
        TowThatJerks x = Checks.towOf(SEVEN);
        int[][] want = {{0, 20}, {3, 20}, {4, 13}, {5, 13}, {6, 0}, {7, 0}, {40, 0}, {-1, -1}, {41, -1}};
        for (int[] pair : want) {
            C.due("winch(" + pair[0] + ")", x.winch(pair[0]), pair[1]);
        }
        TowThatJerks calm = Checks.towOf("p1010;s0 40;");
        C.due("a calm sea, winch(39)", calm.winch(39), 36);
        C.due("a calm sea, winch(40)", calm.winch(40), 0);
        C.due("pulls of 1, winch(0)", Checks.towOf("p3010;v0;").winch(0), 1);
        C.due("pulls of 0, winch(0)", Checks.towOf("p301;v0;").winch(0), 0);
        TowThatJerks none = new TowThatJerks();
        C.due("renders without", none.renders(5), -3);
        C.due("renders out of range", none.renders(-1), -1);
        C.due("winch without", none.winch(5), -3);
        C.due("winch out of range", none.winch(41), -1);
    }

    private static void dueLegs(String text, int[] way, int greatest, int hours, int leg) {
        TowThatJerks x = Checks.towOf(text + "s7 20;v6;");
        Checks.row(x, 0, 0, way);
        C.due("greatest of legs", x.legs(0, 0), greatest);
        C.due("hours of legs", x.legs(0, 1), hours);
        C.due("the leg", x.legs(0, 2), leg);
        C.due("height stays", x.set(0, 0), 7);
        C.due("pace stays", x.set(2, 0), 6);
        C.due("the row stays", x.element(0, 2), way[2]);
    }

    private static void legs() {
        String wire = "p1010;";
        dueLegs(wire, new int[] {5, 0, 3}, 22, 5, 0);
        dueLegs(wire, new int[] {5, 0, 3, 6, 0, 9, 7, 0, 9}, 166, 18, 0);
        dueLegs(wire, new int[] {5, 0, 3, 6, 0, 9, 7, 0, 8}, 166, 18, 1);
        dueLegs(wire, new int[] {5, 0, 3, 6, 0, 8, 99, 0, 9}, 166, 110, 2);
        // Apart 60 at most, by 10 fathoms of 20 tenths; slack 2 at pace 0, none at pace 9.
        dueLegs(wire, new int[] {1, 60, 9, 1, 0, 0}, 166 + 1200, 2, 0);
        dueLegs(wire, new int[] {1, 0, 9, 1, 60, 9, 1, 0, 0}, 166 + 1200, 3, 1);
        // Slowed to pace 0, not to 1: 1164 in place of 1166.
        dueLegs(wire, new int[] {1, 0, 9, 1, 60, 1}, 1166, 2, 1);
        dueLegs("p301;", new int[] {1, 0, 0}, 0, 1, 0);
        int[] eight = new int[24];
        for (int i = 0; i < 24; i += 3) {
            eight[i] = 99;
        }
        dueLegs(wire, eight, 4, 792, 0);
    }

    private static void dueWay(int want, int... way) {
        TowThatJerks x = Checks.towOf("p1010;");
        Checks.row(x, 0, 0, way);
        for (int what = 0; what < 3; what++) {
            C.due("a way not as told", x.legs(0, what), want);
        }
        TowThatJerks none = new TowThatJerks();
        Checks.row(none, 0, 0, way);
        C.due("a way not as told goes ahead", none.legs(0, 0), want);
    }

    private static void legsNotAsTold() {
        dueWay(-13);
        dueWay(-13, 5, 0);
        dueWay(-13, 5, 0, 3, 5);
        dueWay(-13, 0, 0, 3);
        dueWay(-13, 100, 0, 3);
        dueWay(-13, -1, 0, 3);
        dueWay(-13, 5, 61, 3);
        dueWay(-13, 5, -1, 3);
        dueWay(-13, 5, 0, 10);
        dueWay(-13, 5, 0, -1);
        dueWay(-13, 5, 0, 3, 5, 0, 10);
        int[] nine = new int[27];
        for (int i = 0; i < 27; i += 3) {
            nine[i] = 1;
        }
        dueWay(-13, nine);
        TowThatJerks x = Checks.towOf("p1010;");
        Checks.row(x, 0, 0, 5, 0, 3);
        C.due("legs(-1, 0)", x.legs(-1, 0), -1);
        C.due("legs(8, 0)", x.legs(8, 0), -1);
        C.due("legs(0, -1)", x.legs(0, -1), -1);
        C.due("legs(0, 3)", x.legs(0, 3), -1);
        C.due("legs of nothing", x.legs(1, 0), -11);
        C.due("no such what goes ahead", x.legs(1, 3), -1);
        x.keep(1, 1, 0);
        C.due("legs of a piece", x.legs(1, 0), -12);
        Checks.row(x, 1, 1, 5, 0, 3);
        C.due("legs of shorts", x.legs(1, 0), -12);
        TowThatJerks none = new TowThatJerks();
        Checks.row(none, 0, 0, 5, 0, 3);
        C.due("legs without", none.legs(0, 1), -3);
    }

    private static void why() {
        TowThatJerks x = Checks.towOf("p1010;p4110;s20 40;v0;");
        C.due("none parted", x.why(0), -4);
        C.due("why(-1)", x.why(-1), -1);
        C.due("why(2)", x.why(2), -1);
        x.image();
        for (int i = 0; i < 20; i++) {
            x.tenth();
        }
        x.set(0, 60);
        x.tenth();
        C.due("hurt, by a pull above its strength", x.why(0), 2);
        C.due("the other", x.why(1), -4);
        x.restore();
        C.due("restored", x.why(0), -4);
        x.set(0, 60);
        x.tenth();
        C.due("not hurt", x.why(0), 0);
        Checks.read(x, "p001;");
        C.due("a piece more", x.why(2), -4);
    }

    private static void whyOfJustItsStrength() {
        TowThatJerks x = Checks.towOf("p0013;p2990;p101;s20 40;v5;");
        C.due("a jerk below its strength", x.tenth(), 288);
        C.due("hurts", x.piece(0, 7), 1);
        x.set(0, 0);
        x.set(2, 9);
        C.due("a pull of just its strength", x.tenth(), 300);
        C.due("parts it", x.piece(0, 8), 1);
        C.due("by its hurt", x.why(0), 1);
    }

    private static void caravans() {
        TowThatJerks x = Checks.towOf("a-45;");
        int[] want = {-45, -49, -53, -58};
        for (int n = 1; n <= want.length; n++) {
            C.due("caravan(" + n + ")", x.caravan(n), want[n - 1]);
        }
        C.due("less and less", Checks.towOf("a+100;y000;").caravan(4), 51);
        C.due("held", Checks.towOf("a+900;y900;").caravan(3), 999);
        C.due("held below 0", Checks.towOf("a-999;y900;").caravan(9), -999);
        C.due("caravan(0)", x.caravan(0), Checks.LOWER - 1);
        C.due("caravan(10)", x.caravan(10), Checks.LOWER - 1);
        C.due("the angle stays", x.yaw(0), -45);
    }

    private static void dueJudged(int want, int sort, int... pulls) {
        TowThatJerks x = Checks.towOf(SEVEN);
        Checks.row(x, 0, sort, pulls);
        C.due("judge of sort " + sort, x.judge(0), want);
    }

    private static void judged() {
        for (int sort = 0; sort < 3; sort++) {
            dueJudged(-4, sort);
            dueJudged(-4, sort, 13, 20, 20, 0, 20, 20, 13, 13, 20);
            dueJudged(0, sort, 12, 20, 21);
            dueJudged(2, sort, 13, 20, 21, 1);
            dueJudged(8, sort, 13, 20, 20, 0, 20, 20, 13, 13, 13);
        }
        dueJudged(-4, 0, 13, -128, -128, 0);
        dueJudged(3, 0, -128, -128, -128, 1);
        dueJudged(1, 0, 13, -127);
        dueJudged(1, 1, 13, -128, 20);
        dueJudged(-4, 1, 13, -32768, 20);
        dueJudged(1, 2, 13, -32768, 20);
        dueJudged(-4, 2, 13, -2147483648, 20);
        // A pull that no byte can tell isn't so.
        TowThatJerks great = Checks.towOf("p2999;p2999;v0;");
        Checks.row(great, 0, 0, 297);
        C.due("the lowest bits of 297", great.judge(0), 0);
        Checks.row(great, 0, 1, 297, 297);
        C.due("297 as shorts", great.judge(0), -4);
    }

    private static void refusalsOfJudge() {
        TowThatJerks x = Checks.towOf(SEVEN);
        C.due("judge(-1)", x.judge(-1), -1);
        C.due("judge(8)", x.judge(8), -1);
        C.due("judge of nothing", x.judge(0), -11);
        x.keep(0, 1, 0);
        C.due("judge of a piece", x.judge(0), -12);
        TowThatJerks none = new TowThatJerks();
        C.due("judge of nothing, without", none.judge(0), -11);
        none.row(0, 2, 0);
        C.due("judge without", none.judge(0), -3);
    }
}
