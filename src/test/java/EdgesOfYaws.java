/** The edges of yaws: promises 19 to 23. */
final class EdgesOfYaws {
    private static final int NOT_SO = -1000000001;

    private EdgesOfYaws() {
    }

    static void look(Sentences s) {
        heldNumbers(s);
        cuts(s);
        yaw(s);
        yaws(s);
        swings(s);
        grows(s);
        heldByDrogue(s);
    }

    private static void dueYaw(Sentences s, TowThatJerks x, int angle, int swing) {
        s.due("yaws(1)", x.yaws(1), angle);
        s.due("yaw(0)", x.yaw(0), angle);
        s.due("yaw(1)", x.yaw(1), swing);
    }

    private static void heldNumbers(Sentences s) {
        s.says("YAW: ANGLE, SWING (0 .. 999 without sign; held)");
        s.due("yaw(0)", new TowThatJerks().yaw(0), 0);
        s.due("yaw(1)", new TowThatJerks().yaw(1), 0);
        // 899 of 899.1; an angle of 999 and 89; then a swing of 899 and 899 less 224.
        TowThatJerks above = Checks.towOf("a+999;y000;v9;");
        dueYaw(s, above, 999, 899);
        dueYaw(s, above, 999, 999);
        dueYaw(s, above, 999, 999);
        TowThatJerks below = Checks.towOf("a-999;y000;v9;");
        dueYaw(s, below, -999, -899);
        dueYaw(s, below, -999, -999);
        dueYaw(s, below, -999, -999);
        // Held behind all three, not behind the first: 999 and 899 less 249 less 449.
        TowThatJerks once = Checks.towOf("a+999;y000;v9;");
        once.yaws(3);
        once.set(4, 9);
        dueYaw(s, once, 999, 999);
        dueYaw(s, once, 999, 999);
    }

    private static void cuts(Sentences s) {
        s.says("(all cut toward 0, by what is then; held)");
        // Driven 21 of 21, turned 15 of 15.75; the angle goes by 3 of 3.6.
        dueYaw(s, Checks.towOf("a-105;y312;v1;"), -102, 36);
        dueYaw(s, Checks.towOf("a+105;y312;v1;"), 102, -36);
        // Driven 0 of 0.9 and turned 0 of 0.95: a small one stays as it is.
        dueYaw(s, Checks.towOf("a-1;y000;v9;"), -1, 0);
        dueYaw(s, Checks.towOf("a+19;y100;v0;"), 19, 0);
        dueYaw(s, Checks.towOf("a-19;y100;v0;"), -19, 0);
        dueYaw(s, Checks.towOf("a+20;y100;v0;"), 20, -1);
        // A swing of 9 turns nothing, one of 10 does.
        dueYaw(s, Checks.towOf("a+90;y000;v1;"), 90, 9);
        dueYaw(s, Checks.towOf("a+100;y000;v1;"), 101, 10);
        dueYaw(s, Checks.towOf("a-90;y000;v1;"), -90, -9);
        dueYaw(s, Checks.towOf("a-100;y000;v1;"), -101, -10);
        // Least and most that divide swing: 4 and 13.
        TowThatJerks damped = Checks.towOf("a+999;y000;v9;");
        damped.yaws(3);
        Checks.read(damped, "a+0;y000;");
        dueYaw(s, damped, 75, 999 - 249);
        TowThatJerks drogued = Checks.towOf("a+999;y000;v9;");
        drogued.yaws(3);
        Checks.read(drogued, "a+0;y009;");
        dueYaw(s, drogued, 92, 999 - 76);
    }

    private static void yaw(Sentences s) {
        s.says("ANGLE (what 0), SWING (1). -1000000001.");
        TowThatJerks x = Checks.towOf("a-999;");
        s.due("yaw(-1)", x.yaw(-1), NOT_SO);
        s.due("yaw(0)", x.yaw(0), -999);
        s.due("yaw(1)", x.yaw(1), 0);
        s.due("yaw(2)", x.yaw(2), NOT_SO);
    }

    private static void yaws(Sentences s) {
        s.says("n tenths (1 .. 400) of YAW go by: ANGLE. -1000000001.");
        TowThatJerks x = Checks.towOf("a+100;");
        int[] wrong = {0, -1, 401, Integer.MIN_VALUE, Integer.MAX_VALUE};
        for (int n : wrong) {
            s.due("yaws(" + n + ")", x.yaws(n), NOT_SO);
            s.due("yaw(0)", x.yaw(0), 100);
        }
        s.due("yaws(1)", x.yaws(1), 102);
        TowThatJerks one = Checks.towOf("a+100;v0;");
        TowThatJerks all = Checks.towOf("a+100;v0;");
        for (int i = 0; i < 399; i++) {
            one.yaws(1);
        }
        s.due("yaws(400)", all.yaws(400), one.yaws(1));
        s.due("yaw(1)", all.yaw(1), one.yaw(1));
        // No line is wanted, and no tenth of the line goes by.
        s.due("count(2)", all.count(2), 0);
    }

    private static void swings(Sentences s) {
        s.says("SWINGS: ANGLE behind n (0 .. 400) tenths of YAW");
        TowThatJerks x = Checks.towOf("a-100;v0;");
        s.due("swings(-1, 0)", x.swings(-1, 0), NOT_SO);
        s.due("swings(0, 0)", x.swings(0, 0), -100);
        s.due("swings(1, 0)", x.swings(1, 0), -99);
        s.due("swings(401, 0)", x.swings(401, 0), NOT_SO);
        int last = x.swings(400, 0);
        TowThatJerks y = Checks.towOf("a-100;v0;");
        s.due("yaws(400)", y.yaws(400), last);
        s.says("the greatest without sign behind each of these (0 of none)");
        s.due("swings(0, 1)", x.swings(0, 1), 0);
        s.due("swings(1, 1)", x.swings(1, 1), 99);
        s.due("swings(400, 1)", x.swings(400, 1), 99);
        s.says("SWINGS: ANGLE (what 0), the greatest (1). -1000000001.");
        s.due("swings(5, -1)", x.swings(5, -1), NOT_SO);
        s.due("swings(5, 2)", x.swings(5, 2), NOT_SO);
        s.due("swings(401, 1)", x.swings(401, 1), NOT_SO);
    }

    /** The greatest angles without sign of tenths 1 to 100 and 101 to 200, by the call yaws. */
    private static int growsByYaws(TowThatJerks x) {
        int early = 0;
        int late = 0;
        for (int i = 1; i <= 200; i++) {
            int angle = Math.abs(x.yaws(1));
            early = i <= 100 ? Math.max(early, angle) : early;
            late = i > 100 ? Math.max(late, angle) : late;
        }
        return late > early ? 1 : 0;
    }

    private static void dueGrows(Sentences s, String text, int want) {
        TowThatJerks x = Checks.towOf(text);
        s.due("grows() of " + text, x.grows(), want);
        s.due("by yaws, " + text, growsByYaws(x), want);
    }

    private static void grows(Sentences s) {
        s.says("whether the greatest ANGLE (without sign) of tenths 101 to 200 is above that of tenths 1 to 100: 1, 0.");
        // None is above the other: still, small, or 999 in both.
        dueGrows(s, "a+0;", 0);
        dueGrows(s, "a+1;v9;y000;", 0);
        dueGrows(s, "a+999;v9;y000;", 0);
        dueGrows(s, "a+999;v0;y900;", 0);
        dueGrows(s, "a+30;v3;y400;", 1);
        dueGrows(s, "a-30;v3;y400;", 1);
        // By one tenth less or more in each hundred these would be otherwise.
        dueGrows(s, "a+38;v2;y200;", 1);
        s.due("grows()", swung("a+301;v1;y000;").grows(), 0);
        s.due("by yaws", growsByYaws(swung("a+301;v1;y000;")), 0);
        s.says("GROWS: 1, 0.");
        s.due("grows()", new TowThatJerks().grows(), 0);
    }

    private static TowThatJerks swung(String text) {
        TowThatJerks x = Checks.towOf("a-999;v9;y000;");
        x.yaws(5);
        Checks.read(x, text);
        return x;
    }

    private static void heldByDrogue(Sentences s) {
        s.says("HELD: the least DROGUE by which it doesn't grow; -4.");
        s.due("held()", new TowThatJerks().held(), 0);
        s.due("held()", swung("a+106;v2;y300;").held(), 1);
        s.due("held()", swung("a+236;v3;y300;").held(), 2);
        // That now does not matter.
        s.due("held()", swung("a+236;v3;y309;").held(), 2);
        TowThatJerks x = swung("a+236;v3;y300;");
        s.due("grows()", x.grows(), 1);
        x.set(6, 1);
        s.due("grows()", x.grows(), 1);
        x.set(6, 2);
        s.due("grows()", x.grows(), 0);
        // All angles and swings at all paces, points and rudders were tried: none asks for more than 2.
        s.cannotBeReached("held", -4);
    }
}
