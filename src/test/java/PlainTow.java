import java.util.ArrayList;
import java.util.List;
import java.util.regex.Matcher;
import java.util.regex.Pattern;

/**
 * The document written a second time, as plainly as it goes and with the whole library at hand: every search tries
 * every number there is. RandomRunsTest holds the class against it.
 */
final class PlainTow {
    static class Piece {
        final int kind, fathoms, figure, index;
        int hurt = 0;
        boolean parted = false;
        int pullThen = 0;

        Piece(int kind, int figure, int fathoms, int index) {
            this.kind = kind;
            this.figure = figure;
            this.fathoms = fathoms;
            this.index = index;
        }

        static Piece of(int kind, int figure, int fathoms, int index) {
            return switch (kind) {
                case 0 -> new Piece(kind, figure, fathoms, index);
                case 1 -> new Wire(kind, figure, fathoms, index);
                case 2 -> new Chain(kind, figure, fathoms, index);
                case 3 -> new Nylon(kind, figure, fathoms, index);
                case 4 -> new Chafed(kind, figure, fathoms, index);
                case 5 -> new Rusted(kind, figure, fathoms, index);
                case 6 -> new Old(kind, figure, fathoms, index);
                default -> new Worn(kind, figure, fathoms, index);
            };
        }

        Piece twin() {
            Piece p = of(kind, figure, fathoms, index);
            p.hurt = hurt;
            p.parted = parted;
            p.pullThen = pullThen;
            return p;
        }

        int heft() { return 2; }
        int give() { return 4; }
        int strength() { return 300; }
        int wear() { return 1; }
        int price() { return fathoms; }
        int failure() { return figure == 0 ? -15 : index; }
    }

    static class Wire extends Piece {
        Wire(int k, int f, int l, int i) { super(k, f, l, i); }
        @Override int heft() { return super.heft() + 2; }
        @Override int give() { return super.give() - 2; }
        @Override int strength() { return super.strength() + 200; }
        @Override int price() { return 3 * super.price(); }
    }

    static class Chain extends Piece {
        Chain(int k, int f, int l, int i) { super(k, f, l, i); }
        @Override int heft() { return 3 * super.heft() + figure; }
        @Override int give() { return super.give() - 3; }
        @Override int strength() { return 2 * super.strength(); }
        @Override int wear() { return super.wear() - 1; }
        @Override int price() { return super.price() + 50; }
    }

    static class Nylon extends Piece {
        Nylon(int k, int f, int l, int i) { super(k, f, l, i); }
        @Override int heft() { return super.heft() - 1; }
        @Override int give() { return 10 * super.give() + figure; }
        @Override int strength() { return super.strength() - 50; }
        @Override int wear() { return super.wear() + 2; }
        @Override int price() { return 2 * super.price() + figure; }
    }

    static final class Chafed extends Wire {
        Chafed(int k, int f, int l, int i) { super(k, f, l, i); }
        @Override int strength() { return super.strength() - 20 * figure; }
        @Override int wear() { return 3 * super.wear(); }
        @Override int price() { return super.price() - fathoms; }
        @Override int failure() { return figure == 0 ? -15 : super.failure() + 100; }
    }

    static final class Rusted extends Chain {
        Rusted(int k, int f, int l, int i) { super(k, f, l, i); }
        @Override int heft() { return super.heft() - 1; }
        @Override int give() { return 2 * super.give(); }
        @Override int strength() { return super.strength() - 10 * figure; }
        @Override int wear() { return super.wear() + 1; }
        @Override int price() { return super.price() / 2; }
        @Override int failure() { return -15; }
    }

    static class Old extends Nylon {
        Old(int k, int f, int l, int i) { super(k, f, l, i); }
        @Override int heft() { return super.heft() + 1; }
        @Override int give() { return super.give() / 2; }
        @Override int strength() { return super.strength() - 5 * figure; }
        @Override int wear() { return super.wear() + figure; }
        @Override int price() { return super.price() / 3; }
    }

    static final class Worn extends Old {
        Worn(int k, int f, int l, int i) { super(k, f, l, i); }
        @Override int give() { return super.give() - 5; }
        @Override int strength() { return super.strength() / 2; }
        @Override int wear() { return 2 * super.wear(); }
        @Override int price() { return super.price() - 1; }
        @Override int failure() { return figure == 0 ? -15 : 200 + wear(); }
    }

    /** All that there is, but shelves. */
    static final class State {
        List<Piece> pieces = new ArrayList<>();
        int height = 0, length = 20, pace = 4, depth = 300, point = 3, rudder = 0, drogue = 0;
        int angle = 0, swing = 0, number = 0, jerks = 0;

        State twin() {
            State s = new State();
            for (Piece p : pieces) {
                s.pieces.add(p.twin());
            }
            s.height = height;
            s.length = length;
            s.pace = pace;
            s.depth = depth;
            s.point = point;
            s.rudder = rudder;
            s.drogue = drogue;
            s.angle = angle;
            s.swing = swing;
            s.number = number;
            s.jerks = jerks;
            return s;
        }

        boolean hasLine() {
            return !pieces.isEmpty() && pieces.stream().noneMatch(p -> p.parted);
        }

        int fathoms() { return pieces.stream().mapToInt(p -> p.fathoms).sum(); }
        int heft() { return pieces.stream().mapToInt(p -> p.fathoms * p.heft()).sum(); }
        int give() { return Math.max(1, pieces.stream().mapToInt(p -> p.fathoms * p.give()).sum() / 100); }
        int hang() { return heft() / (4 + pace * pace); }
        int slack() { return hang() / 4; }
        int base() { return 2 * pace * pace + heft() / 10; }

        int rise(int t) {
            int r = t % length;
            return height * (2 * r <= length ? 2 * r : 2 * (length - r)) / length;
        }

        int apart(int t) { return Math.abs(rise(t) - rise(t + fathoms())); }
        boolean jerk(int t) { return apart(t) - slack() > 0; }
        int pull(int t) { return base() + (jerk(t) ? 20 * (apart(t) - slack()) / give() : 0); }

        int greatest() {
            int most = Integer.MIN_VALUE;
            for (int t = 0; t <= length - 1; t++) {
                most = Math.max(most, pull(t));
            }
            return most;
        }

        int when() {
            int t = 0;
            while (pull(t) != greatest()) {
                t++;
            }
            return t;
        }

        int tenth() {
            int pull = pull(number);
            boolean jerk = jerk(number);
            number++;
            jerks += jerk ? 1 : 0;
            for (Piece p : pieces) {
                if (pull > p.strength() - p.hurt) {
                    p.parted = true;
                    p.pullThen = pull;
                    return pull;
                }
            }
            if (jerk) {
                for (Piece p : pieces) {
                    p.hurt = Math.min(999, p.hurt + p.wear());
                }
            }
            return pull;
        }

        void yaw() {
            int was = swing;
            swing = held(was + angle * (pace - rudder - drogue) / 10 - was / (4 + drogue) - angle * point / 20);
            angle = held(angle + swing / 10);
        }

        int mostOf(int tenths) {
            int most = 0;
            for (int i = 0; i < tenths; i++) {
                yaw();
                most = Math.max(most, Math.abs(angle));
            }
            return most;
        }
    }

    static int held(int n) { return n > 999 ? 999 : n < -999 ? -999 : n; }

    State s = new State();
    private State image = null;
    /** Null, a Piece or a Row. */
    final Object[] shelves = new Object[8];

    static final class Row {
        final int sort;
        final int[] elements;

        Row(int sort, int n) {
            this.sort = sort;
            this.elements = new int[n];
        }
    }

    private static boolean in(int n, int a, int b) { return a <= n && n <= b; }

    // ---- tows

    private static final String NUMBER = "(0|[1-9][0-9]{0,2})";
    private static final Pattern STATEMENT = Pattern.compile("p([0-9])([0-9])" + NUMBER + ";|s" + NUMBER + " " + NUMBER
            + ";|v([0-9]);|d" + NUMBER + ";|y([0-9])([0-9])([0-9]);|a([+-])" + NUMBER + ";");
    private static final Pattern TOW = Pattern.compile("(?:" + STATEMENT.pattern() + ")+");

    int tow(int d) {
        int no = noRow(d, true);
        if (no != 0) {
            return no;
        }
        StringBuilder b = new StringBuilder();
        for (int e : ((Row) shelves[d]).elements) {
            b.append((char) (e & 255));
        }
        String text = b.toString();
        if (!TOW.matcher(text).matches()) {
            int viable = 0;
            for (int n = 0; n <= text.length(); n++) {
                Matcher m = TOW.matcher(text.substring(0, n));
                viable = m.matches() || m.hitEnd() ? n : viable;
            }
            return -1000 - viable;
        }
        State draft = s.twin();
        Matcher m = STATEMENT.matcher(text);
        int statements = 0;
        while (m.find()) {
            if (!obey(m, draft)) {
                return -2000 - m.start();
            }
            statements++;
        }
        s = draft;
        return statements;
    }

    private static int n(Matcher m, int group) { return Integer.parseInt(m.group(group)); }

    private static boolean obey(Matcher m, State t) {
        switch (m.group().charAt(0)) {
            case 'p':
                if (n(m, 1) > 7 || !in(n(m, 3), 1, 99) || t.pieces.size() == 6) {
                    return false;
                }
                t.pieces.add(Piece.of(n(m, 1), n(m, 2), n(m, 3), t.pieces.size()));
                return true;
            case 's':
                t.height = n(m, 4);
                t.length = n(m, 5);
                return t.height <= 60 && in(t.length, 4, 40);
            case 'v':
                t.pace = n(m, 6);
                return true;
            case 'd':
                t.depth = n(m, 7);
                return t.depth >= 1;
            case 'y':
                t.point = n(m, 8);
                t.rudder = n(m, 9);
                t.drogue = n(m, 10);
                return true;
            default:
                t.angle = m.group(11).equals("-") ? -n(m, 12) : n(m, 12);
                return true;
        }
    }

    private boolean isPiece(int k) { return in(k, 0, s.pieces.size() - 1); }

    int piece(int k, int what) {
        if (!isPiece(k) || !in(what, 0, 8)) {
            return -1;
        }
        Piece p = s.pieces.get(k);
        int[] told = {p.kind, p.fathoms, p.figure, p.heft(), p.give(), p.strength(), p.wear(), p.hurt, p.parted ? 1 : 0};
        return told[what];
    }

    int set(int what, int n) {
        int[] least = {0, 4, 0, 1, 0, 0, 0};
        int[] most = {60, 40, 9, 999, 9, 9, 9};
        if (!in(what, 0, 6) || !in(n, least[what], most[what])) {
            return -1;
        }
        int[] was = {s.height, s.length, s.pace, s.depth, s.point, s.rudder, s.drogue};
        switch (what) {
            case 0: s.height = n; break;
            case 1: s.length = n; break;
            case 2: s.pace = n; break;
            case 3: s.depth = n; break;
            case 4: s.point = n; break;
            case 5: s.rudder = n; break;
            default: s.drogue = n; break;
        }
        return was[what];
    }

    int line(int what) {
        if (!in(what, 0, 5)) {
            return -1;
        }
        if (!s.hasLine()) {
            return -3;
        }
        int[] told = {s.fathoms(), s.heft(), s.give(), s.hang(), s.slack(), s.base()};
        return told[what];
    }

    // ---- tenths

    int apart(int t) { return !in(t, 0, 9999) ? -1 : !s.hasLine() ? -3 : s.apart(t); }
    int pull(int t) { return !in(t, 0, 9999) ? -1 : !s.hasLine() ? -3 : s.pull(t); }
    int tenth() { return !s.hasLine() ? -3 : s.tenth(); }
    int greatest(int what) { return !in(what, 0, 1) ? -1 : !s.hasLine() ? -3 : what == 0 ? s.greatest() : s.when(); }

    /** The tenth and the piece, or nothing. */
    private static int[] parting(State t, int n) {
        for (int i = 0; i < n; i++) {
            t.tenth();
            for (Piece p : t.pieces) {
                if (p.parted) {
                    return new int[] {i, p.index};
                }
            }
        }
        return null;
    }

    int holds(int n, int what) {
        if (!in(n, 0, 400) || !in(what, 0, 2)) {
            return -1;
        }
        if (!s.hasLine()) {
            return -3;
        }
        int[] parting = parting(s.twin(), n);
        if (what == 0) {
            return parting == null ? 1 : 0;
        }
        return parting == null ? -4 : parting[what - 1];
    }

    int fastest(int n) {
        if (!in(n, 0, 400)) {
            return -1;
        }
        if (!s.hasLine()) {
            return -3;
        }
        int best = -4;
        for (int pace = 0; pace <= 9; pace++) {
            State t = s.twin();
            t.pace = pace;
            best = parting(t, n) == null ? pace : best;
        }
        return best;
    }

    int longer(int k, int pull) {
        if (!isPiece(k) || !in(pull, 0, 9999)) {
            return -1;
        }
        if (!s.hasLine()) {
            return -3;
        }
        for (int n = 0; n <= 99; n++) {
            State t = s.twin();
            Piece p = t.pieces.get(k);
            t.pieces.set(k, Piece.of(p.kind, p.figure, p.fathoms + n, k));
            if (t.greatest() <= pull) {
                return n;
            }
        }
        return -4;
    }

    int stock(int fathoms, int what) {
        if (!in(fathoms, 1, 999) || !in(what, 0, 1)) {
            return -1;
        }
        int best = -4;
        int least = -4;
        for (int bits = 63; bits >= 1; bits--) {
            State t = s.twin();
            t.pieces.clear();
            boolean may = true;
            for (int k = 0; k < 6; k++) {
                if ((bits & 1 << k) != 0) {
                    may = may && isPiece(k) && !s.pieces.get(k).parted;
                    if (may) {
                        t.pieces.add(s.pieces.get(k));
                    }
                }
            }
            if (may && t.fathoms() <= fathoms && (best == -4 || t.greatest() <= least)) {
                best = bits;
                least = t.greatest();
            }
        }
        return what == 0 ? best : least;
    }

    int bridge(int kind, int fathoms) {
        if (!in(kind, 0, 7) || !in(fathoms, 1, 99)) {
            return -1000000001;
        }
        if (!s.hasLine()) {
            return -1000000003;
        }
        State t = s.twin();
        t.pieces.add(Piece.of(kind, 0, fathoms, 6));
        return s.greatest() - t.greatest();
    }

    // ---- sands, odds

    int fouls() { return !s.hasLine() ? -3 : s.hang() > s.depth ? 1 : 0; }

    int takeIn() {
        if (!s.hasLine()) {
            return -3;
        }
        for (int n = 0; n <= 99; n++) {
            for (Piece p : s.pieces) {
                int hang = (s.heft() - n * p.heft()) / (4 + s.pace * s.pace);
                if (n <= p.fathoms && hang <= s.depth) {
                    return n == 0 ? 0 : 100 * p.index + n;
                }
            }
        }
        return -4;
    }

    int shallowest() {
        if (!s.hasLine()) {
            return -3;
        }
        for (int depth = 1; depth <= 999; depth++) {
            boolean fouls = false;
            for (int pace = 0; pace <= s.pace; pace++) {
                fouls = fouls || s.heft() / (4 + pace * pace) > depth;
            }
            if (!fouls) {
                return depth;
            }
        }
        return -4;
    }

    int odds(int n, int z) {
        if (!in(n, 1, 20)) {
            return -1;
        }
        if (!s.hasLine()) {
            return -3;
        }
        int whole = 0;
        for (int i = 0; i < n; i++) {
            State t = s.twin();
            int seed = z + i;
            boolean holds = true;
            for (int k = 0; k < 100 && holds; k++) {
                seed = (int) (seed * 1103515245L + 12345L);
                int draw = ((seed & 0x7fffffff) / 65536) % 21;
                t.height = Math.max(0, Math.min(60, s.height + draw - 10));
                t.tenth();
                holds = t.hasLine();
            }
            whole += holds ? 1 : 0;
        }
        return whole;
    }

    // ---- yaws

    int yaw(int what) { return what == 0 ? s.angle : what == 1 ? s.swing : -1000000001; }

    int yaws(int n) {
        if (!in(n, 1, 400)) {
            return -1000000001;
        }
        s.mostOf(n);
        return s.angle;
    }

    int swings(int n, int what) {
        if (!in(n, 0, 400) || !in(what, 0, 1)) {
            return -1000000001;
        }
        State t = s.twin();
        int most = t.mostOf(n);
        return what == 0 ? t.angle : most;
    }

    private boolean growsBy(int drogue) {
        State t = s.twin();
        t.drogue = drogue;
        int early = t.mostOf(100);
        return t.mostOf(100) > early;
    }

    int grows() { return growsBy(s.drogue) ? 1 : 0; }

    int held() {
        int drogue = 0;
        while (drogue <= 9 && growsBy(drogue)) {
            drogue++;
        }
        return drogue > 9 ? -4 : drogue;
    }

    // ---- whips, winches, legs

    int whip(int k) {
        if (!isPiece(k)) {
            return -1;
        }
        Piece p = s.pieces.get(k);
        return p.strength() * p.give() * p.fathoms / 10000;
    }

    private int above(int n) {
        int above = 0;
        for (int t = 0; t < s.length; t++) {
            above += s.pull(t) > n ? 1 : 0;
        }
        return above;
    }

    int renders(int n) { return !in(n, 0, 9999) ? -1 : !s.hasLine() ? -3 : above(n); }

    int winch(int m) {
        if (!in(m, 0, 40)) {
            return -1;
        }
        if (!s.hasLine()) {
            return -3;
        }
        int[] pulls = new int[s.length];
        for (int t = 0; t < s.length; t++) {
            pulls[t] = s.pull(t);
        }
        for (int n = 0; n <= 9999; n++) {
            int above = 0;
            for (int pull : pulls) {
                above += pull > n ? 1 : 0;
            }
            if (above <= m) {
                return n;
            }
        }
        return -4;
    }

    int legs(int d, int what) {
        if (!in(what, 0, 2)) {
            return -1;
        }
        int no = noRow(d, true);
        if (no != 0) {
            return no;
        }
        int[] way = ((Row) shelves[d]).elements;
        int legs = way.length / 3;
        boolean well = legs >= 1 && legs <= 8 && legs * 3 == way.length;
        int hours = 0;
        for (int i = 0; i < legs; i++) {
            well = well && in(way[3 * i], 1, 99) && in(way[3 * i + 1], 0, 60) && in(way[3 * i + 2], 0, 9);
            hours += way[3 * i];
        }
        if (!well) {
            return -13;
        }
        if (!s.hasLine()) {
            return -3;
        }
        int best = -1;
        int least = Integer.MAX_VALUE;
        for (int slow = 0; slow < legs; slow++) {
            int most = mostOfLegs(way, slow);
            if (most < least) {
                least = most;
                best = slow;
            }
        }
        return what == 0 ? mostOfLegs(way, -1) : what == 1 ? hours : best;
    }

    private int mostOfLegs(int[] way, int slow) {
        int most = Integer.MIN_VALUE;
        for (int i = 0; i < way.length / 3; i++) {
            State t = s.twin();
            t.height = way[3 * i + 1];
            t.pace = i == slow ? 0 : way[3 * i + 2];
            most = Math.max(most, t.greatest());
        }
        return most;
    }

    int why(int k) {
        if (!isPiece(k)) {
            return -1;
        }
        Piece p = s.pieces.get(k);
        return !p.parted ? -4 : p.hurt == 0 ? 0 : p.pullThen <= p.strength() ? 1 : 2;
    }

    int caravan(int n) {
        if (!in(n, 1, 9)) {
            return -1000000001;
        }
        int angle = s.angle;
        for (int i = 2; i <= n; i++) {
            angle = held(angle * (s.point + 8) / 10);
        }
        return angle;
    }

    int judge(int d) {
        int no = noRow(d, false);
        if (no != 0) {
            return no;
        }
        if (!s.hasLine()) {
            return -3;
        }
        Row row = (Row) shelves[d];
        int[] least = {Byte.MIN_VALUE, Short.MIN_VALUE, Integer.MIN_VALUE};
        for (int i = 0; i < row.elements.length; i++) {
            if (row.elements[i] != least[row.sort] && row.elements[i] != s.pull(i)) {
                return i;
            }
        }
        return -4;
    }

    // ---- the image, what is told

    int image() {
        image = s.twin();
        return s.number;
    }

    int restore() {
        if (image == null) {
            return -3;
        }
        s = image.twin();
        return s.number;
    }

    int count(int what) {
        switch (what) {
            case 0: return s.pieces.size();
            case 1: return (int) s.pieces.stream().filter(p -> p.parted).count();
            case 2: return s.number;
            case 3: return s.jerks;
            case 4: return s.pieces.stream().mapToInt(p -> p.hurt).sum();
            default: return -1;
        }
    }

    // ---- shelves

    private int noRow(int d, boolean ofBytes) {
        if (!in(d, 0, 7)) {
            return -1;
        }
        if (shelves[d] == null) {
            return -11;
        }
        return shelves[d] instanceof Row r && (!ofBytes || r.sort == 0) ? 0 : -12;
    }

    int keep(int d, int what, int k) {
        if (!in(d, 0, 7) || !in(what, 0, 1) || what == 1 && !isPiece(k)) {
            return -1;
        }
        shelves[d] = what == 0 ? null : s.pieces.get(k).twin();
        return 0;
    }

    int row(int d, int sort, int n) {
        if (!in(d, 0, 7) || !in(sort, 0, 2) || n > 100) {
            return -1;
        }
        if (n < 0) {
            return -14;
        }
        shelves[d] = new Row(sort, n);
        return 0;
    }

    int put(int d, int i, int v) {
        int no = noRow(d, false);
        if (no != 0) {
            return no;
        }
        Row r = (Row) shelves[d];
        if (!in(i, 0, r.elements.length - 1)) {
            return -13;
        }
        r.elements[i] = r.sort == 0 ? (byte) v : r.sort == 1 ? (short) v : v;
        return 0;
    }

    long element(int d, int i) {
        if (!in(d, 0, 7)) {
            throw new IllegalArgumentException();
        }
        if (!(shelves[d] instanceof Row r) || !in(i, 0, r.elements.length - 1)) {
            throw new IllegalStateException();
        }
        return r.elements[i];
    }

    int copy(int d, int i, int e, int j, int n) {
        if (!in(d, 0, 7) || !in(e, 0, 7)) {
            return -1;
        }
        if (shelves[d] == null || shelves[e] == null) {
            return -11;
        }
        if (!(shelves[d] instanceof Row a) || !(shelves[e] instanceof Row b) || a.sort != b.sort) {
            return -12;
        }
        if (n < 0 || i < 0 || j < 0 || (long) i + n > a.elements.length || (long) j + n > b.elements.length) {
            return -13;
        }
        int[] taken = new int[n];
        for (int k = 0; k < n; k++) {
            taken[k] = a.elements[i + k];
        }
        for (int k = 0; k < n; k++) {
            b.elements[j + k] = taken[k];
        }
        return n;
    }

    private int noPiece(int d) {
        return !in(d, 0, 7) ? -1 : shelves[d] == null ? -11 : shelves[d] instanceof Piece ? 0 : -12;
    }

    int price(int d) { return noPiece(d) != 0 ? noPiece(d) : ((Piece) shelves[d]).price(); }
    int toss(int d) { return noPiece(d) != 0 ? noPiece(d) : ((Piece) shelves[d]).failure(); }
}
