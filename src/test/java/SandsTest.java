/** Promises 15 to 18: sands on which it fouls, and odds by seeds. */
public final class SandsTest {
    private static final Checks C = new Checks("SandsTest");

    public static void main(String[] args) {
        fouls();
        takeIn();
        shallowest();
        oddsOfAllAndNone();
        oddsAsTenths();
        refusals();
        C.end();
    }

    private static void fouls() {
        TowThatJerks x = Checks.towOf("p2910;d7;");
        C.due("hang 7, depth 7", x.fouls(), 0);
        x.set(3, 6);
        C.due("hang 7, depth 6", x.fouls(), 1);
        x.set(2, 5);
        C.due("faster it hangs less", x.fouls(), 0);
    }

    private static void dueTakeIn(String text, int want) {
        TowThatJerks x = Checks.towOf(text);
        C.due("takeIn() of " + text, x.takeIn(), want);
        C.due("again", x.takeIn(), want);
    }

    private static void takeIn() {
        dueTakeIn("p2910;d7;", 0);
        dueTakeIn("p2910;d6;", 1);
        dueTakeIn("p1010;p2910;d6;", 104);
        dueTakeIn("p295;p295;d6;", 1);
        dueTakeIn("p105;p2950;p2950;d71;", 106);
        dueTakeIn("p291;v0;d1;", 1);
        dueTakeIn("p293;v0;d1;", 3);
        dueTakeIn("p2999;v0;d1;", 99);
        dueTakeIn("p301;p301;p301;p301;p301;p2950;d36;", 502);
        dueTakeIn("p2910;p2910;v0;d1;", -4);
        dueTakeIn("p0099;p291;d6;", 37);
    }

    private static void shallowest() {
        C.due("heft 2970", Checks.towOf("p2999;p2999;").shallowest(), 742);
        C.due("its pace does not matter", Checks.towOf("p2999;p2999;v9;d1;").shallowest(), 742);
        C.due("nor pace 0", Checks.towOf("p2999;p2999;v0;").shallowest(), 742);
        C.due("1 at least", Checks.towOf("p301;").shallowest(), 1);
        C.due("heft 3998", Checks.towOf("p2999;p2999;p2968;p102;").shallowest(), 999);
        C.due("heft 4000", Checks.towOf("p2999;p2999;p2968;p005;").shallowest(), -4);
    }

    private static void oddsOfAllAndNone() {
        TowThatJerks strong = Checks.towOf("p3080;p3080;s10 20;v0;");
        C.due("all hold", strong.odds(20, -7), 20);
        C.due("one seed", strong.odds(1, 2147483647), 1);
        TowThatJerks weak = Checks.towOf("p7010;v9;");
        C.due("none holds", weak.odds(20, 3), 0);
        C.due("nothing stays", weak.count(1) + weak.count(2) + weak.count(3), 0);
    }

    /** What a seed does, by the calls set and tenth alone. */
    private static boolean holdsBySeed(String text, int before, int seed) {
        TowThatJerks x = Checks.towOf(text);
        for (int i = 0; i < before; i++) {
            x.tenth();
        }
        int height = x.set(0, 0);
        int z = seed;
        for (int i = 0; i < 100; i++) {
            z = z * 1103515245 + 12345;
            int draw = ((z & 0x7fffffff) >> 16) % 21;
            x.set(0, Math.max(0, Math.min(60, height + draw - 10)));
            x.tenth();
        }
        return x.count(1) == 0;
    }

    private static int dueOdds(String text, int before, int n, int z) {
        int want = 0;
        for (int i = 0; i < n; i++) {
            if (holdsBySeed(text, before, z + i)) {
                want++;
            }
        }
        TowThatJerks x = Checks.towOf(text);
        for (int i = 0; i < before; i++) {
            x.tenth();
        }
        C.due("odds(" + n + ", " + z + ") of " + text + " behind " + before, x.odds(n, z), want);
        C.due("number stays", x.count(2), before);
        return want;
    }

    private static void oddsAsTenths() {
        int mixed = 0;
        String[] tows = {"p1010;p4110;s20 40;v0;", "p7520;s25 20;v0;", "p6910;p2920;s8 9;v2;",
            "p3940;p3935;s60 15;v3;", "p0015;s1 12;v1;", "p5930;p0030;s30 31;v4;", "p1020;s22 40;v0;"};
        for (String tow : tows) {
            for (int before = 0; before <= 7; before += 7) {
                int holding = dueOdds(tow, before, 20, 1) + dueOdds(tow, before, 13, -6)
                        + dueOdds(tow, before, 4, 2147483646);
                mixed += holding > 0 && holding < 37 ? 1 : 0;
            }
        }
        C.due("some tows hold by some seeds alone", mixed > 0 ? 1 : 0, 1);
    }

    private static void refusals() {
        TowThatJerks x = Checks.towOf("p1010;");
        C.due("odds(0, 1)", x.odds(0, 1), -1);
        C.due("odds(21, 1)", x.odds(21, 1), -1);
        TowThatJerks parted = Checks.towOf("p7010;v9;");
        parted.tenth();
        TowThatJerks[] both = {new TowThatJerks(), parted};
        for (TowThatJerks none : both) {
            C.due("fouls without", none.fouls(), -3);
            C.due("takeIn without", none.takeIn(), -3);
            C.due("shallowest without", none.shallowest(), -3);
            C.due("odds without", none.odds(1, 1), -3);
            C.due("odds out of range", none.odds(0, 1), -1);
        }
    }
}
