/** The edges of sands and odds: promises 15 to 18. */
final class EdgesOfSands {
    private static final int MOST = Integer.MAX_VALUE;
    private static final int LEAST = Integer.MIN_VALUE;

    private EdgesOfSands() {
    }

    static void look(Sentences s) {
        fouls(s);
        takeIn(s);
        shallowest(s);
        seeds(s);
        hundredTenths(s);
        heights(s);
        draws(s);
    }

    private static void fouls(Sentences s) {
        s.says("FOULS: HANG is above DEPTH: 1, 0.");
        s.due("fouls() of hang 7, depth 7", Checks.towOf("p2910;d7;").fouls(), 0);
        s.due("fouls() of hang 7, depth 6", Checks.towOf("p2910;d6;").fouls(), 1);
        s.due("fouls() of hang 0, depth 1", Checks.towOf("p301;d1;").fouls(), 0);
        s.due("fouls() of hang 2227, depth 999",
                Checks.towOf("p2999;p2999;p2999;p2999;p2999;p2999;v0;d999;").fouls(), 1);
        s.says("FOULS: 1, 0. -3.");
        s.due("fouls()", new TowThatJerks().fouls(), -3);
    }

    private static void dueTakeIn(Sentences s, String text, int want) {
        s.due("takeIn() of " + text, Checks.towOf(text).takeIn(), want);
    }

    private static void takeIn(Sentences s) {
        s.says("the fewest FATHOMS of one PIECE (it may be all) that make it foul no more");
        dueTakeIn(s, "p2910;d6;", 1);
        dueTakeIn(s, "p291;v0;d1;", 1);
        dueTakeIn(s, "p2999;v0;d1;", 99);
        dueTakeIn(s, "p1010;p2910;d6;", 104);
        s.says("of several PIECES the least; as 100 times the PIECE and FATHOMS");
        dueTakeIn(s, "p295;p295;d6;", 1);
        dueTakeIn(s, "p301;p295;p295;d6;", 101);
        dueTakeIn(s, "p301;p301;p301;p301;p301;p2950;d36;", 502);
        s.says("-4 none alone does; 0 it doesn't foul.");
        dueTakeIn(s, "p2910;p2910;v0;d1;", -4);
        dueTakeIn(s, "p2910;d7;", 0);
        s.says("TAKE IN; -4. -3.");
        s.due("takeIn()", new TowThatJerks().takeIn(), -3);
    }

    private static void dueShallowest(Sentences s, String text, int want) {
        s.due("shallowest() of " + text, Checks.towOf(text).shallowest(), want);
    }

    private static void shallowest(Sentences s) {
        s.says("the least DEPTH (1 .. 999) at which it fouls at no PACE from 0 to that now; -4.");
        dueShallowest(s, "p301;", 1);
        dueShallowest(s, "p307;v0;", 1);
        dueShallowest(s, "p308;v0;", 2);
        // Hefts 3999 and 4000; how fast it is now, and how deep, does not matter.
        dueShallowest(s, "p2999;p2999;p2968;p102;p301;", 999);
        dueShallowest(s, "p2999;p2999;p2968;p102;p301;v0;", 999);
        dueShallowest(s, "p2999;p2999;p2968;p102;p301;v9;d1;", 999);
        dueShallowest(s, "p2999;p2999;p2968;p005;", -4);
        s.says("SHALLOWEST; -4. -3.");
        s.due("shallowest()", new TowThatJerks().shallowest(), -3);
    }

    /** In how many of 101 tenths nothing parts, by the calls set and tenth, draws being reckoned without int's wrap. */
    private static int tenthsBy(String text, int seed) {
        TowThatJerks x = Checks.towOf(text);
        int height = x.set(0, 0);
        long z = seed;
        for (int i = 0; i <= 100; i++) {
            z = Math.floorMod(z * 1103515245L + 12345L, 1L << 32);
            long draw = z % (1L << 31) / 65536 % 21;
            x.set(0, (int) Math.max(0, Math.min(60, height + draw - 10)));
            x.tenth();
            if (x.count(1) > 0) {
                return i;
            }
        }
        return 101;
    }

    private static int holdsBy(String text, int seed) {
        return tenthsBy(text, seed) >= 100 ? 1 : 0;
    }

    private static void seeds(Sentences s) {
        s.says("of seeds z, z and 1, .. (n of them, 1 .. 20)");
        TowThatJerks x = Checks.towOf("p2010;s60 40;v0;");
        s.due("odds(0, 1)", x.odds(0, 1), -1);
        s.due("odds(1, 1)", x.odds(1, 1), 1);
        s.due("odds(20, 1)", x.odds(20, 1), 20);
        s.due("odds(21, 1)", x.odds(21, 1), -1);
        // Behind the greatest int comes the least.
        String text = "p6519;s0 14;v1;";
        TowThatJerks wrap = Checks.towOf(text);
        int sum = 0;
        for (int i = 0; i < 20; i++) {
            sum += holdsBy(text, MOST - 9 + i);
        }
        s.due("some hold, some do not", sum > 0 && sum < 20 ? 1 : 0, 1);
        s.due("odds(20, MOST - 9)", wrap.odds(20, MOST - 9), sum);
        s.due("odds(2, MOST)", wrap.odds(2, MOST), wrap.odds(1, MOST) + wrap.odds(1, LEAST));
        s.says("ODDS. -1; -3.");
        s.due("odds(1, 1)", new TowThatJerks().odds(1, 1), -3);
        s.due("odds(-1, 1)", x.odds(-1, 1), -1);
    }

    private static void hundredTenths(Sentences s) {
        s.says("in how many nothing parts in 100 TENTHS");
        String text = "p6519;s0 14;v1;";
        s.due("tenths by seed 20", tenthsBy(text, 20), 99);
        s.due("odds(1, 20)", Checks.towOf(text).odds(1, 20), 0);
        s.due("tenths by seed 4", tenthsBy(text, 4), 100);
        s.due("odds(1, 4)", Checks.towOf(text).odds(1, 4), 1);
    }

    private static void heights(Sentences s) {
        s.says("less 10 (0 .. 60 held)");
        // A chain (600, never hurt): a height of 60 pulls 546, 66 would pull 606.
        s.due("odds(20, 1)", Checks.towOf("p2010;s60 40;v0;").odds(20, 1), 20);
        // Heights below 0 would jerk, too, and hurt the nylon so that none of these holds.
        s.due("odds(5, 1)", Checks.towOf("p3216;s0 10;v5;").odds(5, 1), 5);
        s.due("odds(5, 1)", Checks.towOf("p3125;s1 36;v5;").odds(5, 1), 5);
        // A calm sea has waves in mind: a height of 10 is apart by 5 in 10 fathoms.
        s.due("odds(20, 1)", Checks.towOf("p7910;s0 20;v7;").odds(20, 1), 0);
        s.due("holds(100, 0)", Checks.towOf("p7910;s0 20;v7;").holds(100, 0), 1);
    }

    private static void draws(Sentences s) {
        s.says("z becomes z times 1103515245 plus 12345 (an int)");
        String[] tows = {"p6519;s0 14;v1;", "p1010;p4110;s20 40;v0;", "p7520;s25 20;v0;"};
        int[] zs = {0, 1, -1, MOST, LEAST, 123456789, -987654321};
        int sum = 0;
        for (String tow : tows) {
            for (int z : zs) {
                int want = holdsBy(tow, z);
                sum += want;
                s.due("odds(1, " + z + ") of " + tow, Checks.towOf(tow).odds(1, z), want);
            }
        }
        s.due("some hold, some do not", sum > 0 && sum < tows.length * zs.length ? 1 : 0, 1);
    }
}
