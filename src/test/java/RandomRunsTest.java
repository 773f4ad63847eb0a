import java.util.Random;

/** Runs of calls drawn by seeds, each answer held against PlainTow's. */
public final class RandomRunsTest {
    private static final Checks C = new Checks("RandomRunsTest");
    private static final int RUNS = 400;
    private static final int CALLS = 512;
    /** A text of 100 bytes, its row, and the call that reads it. */
    private static final int MOST_CALLS_OF_A_STEP = 102;

    private final Random random;
    private final TowThatJerks x = new TowThatJerks();
    private final PlainTow y = new PlainTow();
    private final StringBuilder told = new StringBuilder();

    private RandomRunsTest(int seed) {
        random = new Random(seed);
    }

    public static void main(String[] args) {
        for (int seed = 0; seed < RUNS; seed++) {
            RandomRunsTest run = new RandomRunsTest(seed);
            int used = 0;
            while (used <= CALLS - MOST_CALLS_OF_A_STEP) {
                used += run.step(seed);
            }
        }
        C.end();
    }

    private void due(int seed, String call, long got, long want) {
        C.due("seed " + seed + ": " + call, got, want);
    }

    /** A number from least to most, or now and then one that is odd. */
    private int near(int least, int most) {
        int way = random.nextInt(40);
        if (way == 0) {
            return least - 1;
        }
        if (way == 1) {
            return most + 1;
        }
        if (way == 2) {
            return random.nextInt();
        }
        return way < 6 ? least : way < 9 ? most : least + random.nextInt(most - least + 1);
    }

    private int shelf() {
        return near(0, 7);
    }

    private String number(int least, int most) {
        int n = random.nextInt(25) == 0 ? random.nextInt(1100) : least + random.nextInt(most - least + 1);
        return (random.nextInt(60) == 0 ? "0" : "") + n;
    }

    private String statement() {
        switch (random.nextInt(9)) {
            case 0: return "s" + number(0, 60) + " " + number(4, 40) + ";";
            case 1: return "v" + random.nextInt(10) + ";";
            case 2: return "d" + number(1, 999) + ";";
            case 3: return "y" + random.nextInt(10) + random.nextInt(10) + random.nextInt(10) + ";";
            case 4: return "a" + (random.nextBoolean() ? "+" : "-") + number(0, 999) + ";";
            case 5: return "a" + (random.nextBoolean() ? "+" : "-") + number(0, 60) + ";";
            default: return "p" + random.nextInt(random.nextInt(12) == 0 ? 10 : 8) + random.nextInt(10) + number(1, 99) + ";";
        }
    }

    private String text() {
        told.setLength(0);
        int statements = random.nextInt(9);
        for (int i = 0; i < statements; i++) {
            told.append(statement());
        }
        String signs = "psvdya;0123456789 +-x";
        if (random.nextInt(5) == 0 && told.length() > 0) {
            told.setCharAt(random.nextInt(told.length()), signs.charAt(random.nextInt(signs.length())));
        }
        if (random.nextInt(8) == 0 && told.length() > 0) {
            told.setLength(random.nextInt(told.length()));
        }
        return told.length() > 100 ? told.substring(0, 100) : told.toString();
    }

    private int readText(int seed) {
        String text = text();
        int d = random.nextInt(8);
        x.row(d, 0, text.length());
        y.row(d, 0, text.length());
        for (int i = 0; i < text.length(); i++) {
            x.put(d, i, text.charAt(i));
            y.put(d, i, text.charAt(i));
        }
        due(seed, "tow of '" + text + "'", x.tow(d), y.tow(d));
        return text.length() + 2;
    }

    private int writeWay(int seed) {
        int legs = 1 + random.nextInt(9);
        int d = random.nextInt(8);
        x.row(d, 0, 3 * legs);
        y.row(d, 0, 3 * legs);
        for (int i = 0; i < 3 * legs; i++) {
            int v = i % 3 == 0 ? near(1, 99) : i % 3 == 1 ? near(0, 60) : near(0, 9);
            x.put(d, i, v);
            y.put(d, i, v);
        }
        for (int what = 0; what < 3; what++) {
            due(seed, "legs", x.legs(d, what), y.legs(d, what));
        }
        return 3 * legs + 4;
    }

    /** A row of the pulls themselves, one of them changed now and then. */
    private int writePulls(int seed) {
        int sort = random.nextInt(3);
        int d = random.nextInt(8);
        int n = random.nextInt(30);
        x.row(d, sort, n);
        y.row(d, sort, n);
        for (int i = 0; i < n; i++) {
            int v = y.pull(i);
            v = random.nextInt(20) == 0 ? v + 1 : random.nextInt(20) == 0 ? Integer.MIN_VALUE >> new int[] {24, 16, 0}[sort] : v;
            x.put(d, i, v);
            y.put(d, i, v);
        }
        due(seed, "judge", x.judge(d), y.judge(d));
        return n + 2;
    }

    private int passTenths(int seed) {
        int n = 1 + random.nextInt(12);
        for (int i = 0; i < n; i++) {
            due(seed, "tenth()", x.tenth(), y.tenth());
        }
        return n;
    }

    private int step(int seed) {
        switch (random.nextInt(30)) {
            case 0: case 1: return readText(seed);
            case 2: return random.nextInt(3) == 0 ? writeWay(seed) : 1;
            case 3: return random.nextInt(3) == 0 ? writePulls(seed) : 1;
            case 4: return passTenths(seed);
            default: break;
        }
        switch (random.nextInt(4)) {
            case 0: towsAndTenths(seed); break;
            case 1: sandsAndYaws(seed); break;
            case 2: whipsAndImages(seed); break;
            default: shelves(seed); break;
        }
        return 1;
    }

    private void towsAndTenths(int seed) {
        int a = near(0, 8);
        int b = near(0, 60);
        int c = near(0, 9999);
        int d = near(0, 400);
        int e = near(0, 5);
        int w = near(0, 2);
        int p = near(0, 300);
        switch (random.nextInt(12)) {
            case 0: due(seed, "piece", x.piece(e, a), y.piece(e, a)); break;
            case 1: due(seed, "set(" + a + ", " + b + ")", x.set(a, b), y.set(a, b)); break;
            case 2: due(seed, "line", x.line(e), y.line(e)); break;
            case 3: due(seed, "apart(" + c + ")", x.apart(c), y.apart(c)); break;
            case 4: due(seed, "pull(" + c + ")", x.pull(c), y.pull(c)); break;
            case 5: due(seed, "greatest", x.greatest(w - 1), y.greatest(w - 1)); break;
            case 6: due(seed, "holds(" + d + ", " + w + ")", x.holds(d, w), y.holds(d, w)); break;
            case 7: due(seed, "fastest(" + d + ")", x.fastest(d), y.fastest(d)); break;
            case 8: due(seed, "longer(" + e + ", " + p + ")", x.longer(e, p), y.longer(e, p)); break;
            case 9: due(seed, "stock(" + p + ")", x.stock(p, w - 1), y.stock(p, w - 1)); break;
            case 10: due(seed, "bridge(" + a + ", " + b + ")", x.bridge(a, b), y.bridge(a, b)); break;
            default: due(seed, "tenth()", x.tenth(), y.tenth()); break;
        }
    }

    private void sandsAndYaws(int seed) {
        int n = near(1, 20);
        int z = random.nextInt();
        int d = near(0, 400);
        int w = near(0, 1);
        int depth = near(1, random.nextBoolean() ? 30 : 999);
        switch (random.nextInt(10)) {
            case 0: due(seed, "fouls", x.fouls(), y.fouls()); break;
            case 1: due(seed, "takeIn", x.takeIn(), y.takeIn()); break;
            case 2: due(seed, "shallowest", x.shallowest(), y.shallowest()); break;
            case 3: due(seed, "odds(" + n + ", " + z + ")", x.odds(n, z), y.odds(n, z)); break;
            case 4: due(seed, "yaw", x.yaw(w), y.yaw(w)); break;
            case 5: due(seed, "yaws(" + n + ")", x.yaws(n), y.yaws(n)); break;
            case 6: due(seed, "swings(" + d + ")", x.swings(d, w), y.swings(d, w)); break;
            case 7: due(seed, "grows", x.grows(), y.grows()); break;
            case 8: due(seed, "held", x.held(), y.held()); break;
            default: due(seed, "set(3, ..)", x.set(3, depth), y.set(3, depth)); break;
        }
    }

    private void whipsAndImages(int seed) {
        int e = near(0, 5);
        int n = near(0, 400);
        int m = near(0, 40);
        int c = near(1, 9);
        int d = shelf();
        switch (random.nextInt(14)) {
            case 0: case 1: due(seed, "whip", x.whip(e), y.whip(e)); break;
            case 2: due(seed, "renders(" + n + ")", x.renders(n), y.renders(n)); break;
            case 3: due(seed, "winch(" + m + ")", x.winch(m), y.winch(m)); break;
            case 4: due(seed, "legs", x.legs(d, e), y.legs(d, e)); break;
            case 5: case 6: due(seed, "why", x.why(e), y.why(e)); break;
            case 7: due(seed, "caravan(" + c + ")", x.caravan(c), y.caravan(c)); break;
            case 8: due(seed, "judge", x.judge(d), y.judge(d)); break;
            case 9: due(seed, "image", x.image(), y.image()); break;
            case 10: case 11: due(seed, "restore", x.restore(), y.restore()); break;
            default: due(seed, "count", x.count(e), y.count(e)); break;
        }
    }

    private void shelves(int seed) {
        int d = shelf();
        int e = shelf();
        int w = near(0, 2);
        int k = near(0, 5);
        int i = near(0, 12);
        int j = near(0, 12);
        int n = near(0, 12);
        int v = random.nextBoolean() ? near(0, 99) : random.nextInt();
        switch (random.nextInt(9)) {
            case 0: case 1: due(seed, "keep", x.keep(d, w, k), y.keep(d, w, k)); break;
            case 2: due(seed, "row", x.row(d, w, n), y.row(d, w, n)); break;
            case 3: due(seed, "put", x.put(d, i, v), y.put(d, i, v)); break;
            case 4: due(seed, "copy", x.copy(d, i, e, j, n), y.copy(d, i, e, j, n)); break;
            case 5: due(seed, "price", x.price(d), y.price(d)); break;
            case 6: due(seed, "toss", x.toss(d), y.toss(d)); break;
            default: elements(seed, d, i); break;
        }
    }

    private void elements(int seed, int d, int i) {
        long got;
        long want;
        try {
            got = x.element(d, i);
        } catch (IllegalArgumentException e) {
            got = Long.MAX_VALUE;
        } catch (IllegalStateException e) {
            got = Long.MIN_VALUE;
        }
        try {
            want = y.element(d, i);
        } catch (IllegalArgumentException e) {
            want = Long.MAX_VALUE;
        } catch (IllegalStateException e) {
            want = Long.MIN_VALUE;
        }
        due(seed, "element(" + d + ", " + i + ")", got, want);
    }
}
