import java.util.Arrays;

/** A tow between two ships in a sea: what DOC.md promises, call by call. */
public final class TowThatJerks {
    private static final int NOT_SO = -1;
    private static final int NO_LINE = -3;
    private static final int NO_IMAGE = -3;
    private static final int NONE = -4;
    private static final int NOTHING_HELD = -11;
    private static final int OTHER_KIND = -12;
    private static final int NO_PLACE = -13;
    private static final int SIZE_BELOW_ZERO = -14;
    private static final int NO_FAILURE = -15;
    /** Calls whose answers may be below 0 refuse this much lower. */
    private static final int LOWER = -1000000000;

    private static final int HEIGHT = 0;
    private static final int LENGTH = 1;
    private static final int PACE = 2;
    private static final int DEPTH = 3;
    private static final int POINT = 4;
    private static final int RUDDER = 5;
    private static final int DROGUE = 6;
    private static final int[] LEAST_SET = {0, 4, 0, 1, 0, 0, 0};
    private static final int[] MOST_SET = {60, 40, 9, 999, 9, 9, 9};
    private static final int[] FIRST_SET = {0, 20, 4, 300, 3, 0, 0};

    private static final int MOST_PIECES = 6;
    private static final int MOST_FATHOMS = 99;
    private static final int LAST_KIND = 7;
    private static final int MOST_HURT = 999;
    private static final int MOST_ANGLE = 999;
    private static final int MOST_TENTHS = 400;
    private static final int LAST_NUMBER = 9999;
    private static final int MOST_FATHOMS_OF_STOCK = 999;
    private static final int MOST_SEEDS = 20;
    private static final int TENTHS_OF_ODDS = 100;
    private static final int TENTHS_OF_GROWTH = 100;
    private static final int MOST_TOWED = 9;
    private static final int MOST_LEGS = 8;
    private static final int SHELVES = 8;
    private static final int MOST_ELEMENTS = 100;
    private static final int LAST_SORT = 2;
    private static final int BYTES = 0;
    private static final int SHORTS = 1;
    private static final int ALL_BUT_SIGN = 0x7fffffff;

    private final Tow now = new Tow();
    private final Tow image = new Tow();
    /** What is reckoned in mind is tried here, so that nothing of it stays. */
    private final Tow mind = new Tow();
    private final Line line = new Line();
    private final Piece spare = new Piece();
    private final Reader reader = new Reader();
    private final Shelf[] shelves = new Shelf[SHELVES];
    private boolean imageTaken = false;

    public TowThatJerks() {
        for (int d = 0; d < SHELVES; d++) {
            shelves[d] = new Shelf();
        }
    }

    // ---- tows

    public int tow(int d) {
        int refusal = refusalOfBytes(d);
        if (refusal < 0) {
            return refusal;
        }
        mind.become(now);
        int answer = reader.read(shelves[d], mind);
        if (answer > 0) {
            now.become(mind);
        }
        return answer;
    }

    public int piece(int piece, int what) {
        if (!now.has(piece)) {
            return NOT_SO;
        }
        Piece told = now.pieces[piece];
        switch (what) {
            case 0: return told.kind;
            case 1: return told.fathoms;
            case 2: return told.figure;
            case 3: return told.heft;
            case 4: return told.give;
            case 5: return told.strength;
            case 6: return told.wear;
            case 7: return told.hurt;
            case 8: return now.parted == piece ? 1 : 0;
            default: return NOT_SO;
        }
    }

    public int set(int what, int n) {
        if (!Tow.maySet(what, n)) {
            return NOT_SO;
        }
        int was = now.settings[what];
        now.settings[what] = n;
        return was;
    }

    public int line(int what) {
        if (what < 0 || what > 5) {
            return NOT_SO;
        }
        if (!layLine()) {
            return NO_LINE;
        }
        switch (what) {
            case 0: return line.fathoms;
            case 1: return line.heft;
            case 2: return line.giveOfAll();
            case 3: return line.hang();
            case 4: return line.slack();
            default: return line.base();
        }
    }

    // ---- tenths

    public int apart(int t) {
        if (!isWithin(t, 0, LAST_NUMBER)) {
            return NOT_SO;
        }
        return layLine() ? line.apartAt(t) : NO_LINE;
    }

    public int pull(int t) {
        if (!isWithin(t, 0, LAST_NUMBER)) {
            return NOT_SO;
        }
        return layLine() ? line.pullAt(t) : NO_LINE;
    }

    public int tenth() {
        return layLine() ? now.passTenth(line) : NO_LINE;
    }

    public int greatest(int what) {
        if (!isWithin(what, 0, 1)) {
            return NOT_SO;
        }
        if (!layLine()) {
            return NO_LINE;
        }
        return what == 0 ? line.greatestPull() : line.whenGreatest();
    }

    public int holds(int n, int what) {
        if (!isWithin(n, 0, MOST_TENTHS) || !isWithin(what, 0, 2)) {
            return NOT_SO;
        }
        if (!layLine()) {
            return NO_LINE;
        }
        int when = partsWithin(n);
        if (what == 0) {
            return when == NONE ? 1 : 0;
        }
        return what == 1 || when == NONE ? when : mind.parted;
    }

    public int fastest(int n) {
        if (!isWithin(n, 0, MOST_TENTHS)) {
            return NOT_SO;
        }
        if (!layLine()) {
            return NO_LINE;
        }
        for (int pace = MOST_SET[PACE]; pace >= 0; pace--) {
            line.pace = pace;
            if (partsWithin(n) == NONE) {
                return pace;
            }
        }
        return NONE;
    }

    public int longer(int piece, int pull) {
        if (!now.has(piece) || !isWithin(pull, 0, LAST_NUMBER)) {
            return NOT_SO;
        }
        if (!layLine()) {
            return NO_LINE;
        }
        for (int more = 0; more <= MOST_FATHOMS; more++) {
            if (line.greatestPull() <= pull) {
                return more;
            }
            line.add(now.pieces[piece], 1);
        }
        return NONE;
    }

    public int stock(int fathoms, int what) {
        if (!isWithin(fathoms, 1, MOST_FATHOMS_OF_STOCK) || !isWithin(what, 0, 1)) {
            return NOT_SO;
        }
        int bestBits = NONE;
        int bestPull = NONE;
        for (int bits = 1; bits < 1 << now.count; bits++) {
            if (!layStock(bits) || line.fathoms > fathoms) {
                continue;
            }
            int pull = line.greatestPull();
            if (bestBits == NONE || pull < bestPull) {
                bestBits = bits;
                bestPull = pull;
            }
        }
        return what == 0 ? bestBits : bestPull;
    }

    public int bridge(int kind, int fathoms) {
        if (!isWithin(kind, 0, LAST_KIND) || !isWithin(fathoms, 1, MOST_FATHOMS)) {
            return LOWER + NOT_SO;
        }
        if (!layLine()) {
            return LOWER + NO_LINE;
        }
        int without = line.greatestPull();
        spare.begin(kind, 0, fathoms, MOST_PIECES);
        line.add(spare, fathoms);
        return without - line.greatestPull();
    }

    // ---- sands, odds

    public int fouls() {
        if (!layLine()) {
            return NO_LINE;
        }
        return line.hang() > now.settings[DEPTH] ? 1 : 0;
    }

    public int takeIn() {
        if (!layLine()) {
            return NO_LINE;
        }
        int depth = now.settings[DEPTH];
        if (line.hang() <= depth) {
            return 0;
        }
        int best = NONE;
        int fewest = MOST_FATHOMS + 1;
        for (int k = 0; k < now.count; k++) {
            int taken = fewestTakenIn(now.pieces[k], depth);
            if (taken != NONE && taken < fewest) {
                fewest = taken;
                best = 100 * k + taken;
            }
        }
        return best;
    }

    public int shallowest() {
        if (!layLine()) {
            return NO_LINE;
        }
        int deepest = LEAST_SET[DEPTH];
        for (int pace = 0; pace <= now.settings[PACE]; pace++) {
            line.pace = pace;
            deepest = Math.max(deepest, line.hang());
        }
        return deepest > MOST_SET[DEPTH] ? NONE : deepest;
    }

    public int odds(int n, int z) {
        if (!isWithin(n, 1, MOST_SEEDS)) {
            return NOT_SO;
        }
        if (!layLine()) {
            return NO_LINE;
        }
        int whole = 0;
        for (int i = 0; i < n; i++) {
            if (holdsByDraws(z + i)) {
                whole++;
            }
        }
        return whole;
    }

    // ---- yaws

    public int yaw(int what) {
        if (!isWithin(what, 0, 1)) {
            return LOWER + NOT_SO;
        }
        return what == 0 ? now.angle : now.swing;
    }

    public int yaws(int n) {
        if (!isWithin(n, 1, MOST_TENTHS)) {
            return LOWER + NOT_SO;
        }
        now.greatestYaw(n);
        return now.angle;
    }

    public int swings(int n, int what) {
        if (!isWithin(n, 0, MOST_TENTHS) || !isWithin(what, 0, 1)) {
            return LOWER + NOT_SO;
        }
        mind.become(now);
        int most = mind.greatestYaw(n);
        return what == 0 ? mind.angle : most;
    }

    public int grows() {
        return growsWith(now.settings[DROGUE]) ? 1 : 0;
    }

    public int held() {
        for (int drogue = 0; drogue <= MOST_SET[DROGUE]; drogue++) {
            if (!growsWith(drogue)) {
                return drogue;
            }
        }
        return NONE;
    }

    // ---- whips, winches, legs

    public int whip(int piece) {
        if (!now.has(piece)) {
            return NOT_SO;
        }
        Piece told = now.pieces[piece];
        return told.strength * told.give * told.fathoms / 10000;
    }

    public int renders(int n) {
        if (!isWithin(n, 0, LAST_NUMBER)) {
            return NOT_SO;
        }
        return layLine() ? line.pullsAbove(n) : NO_LINE;
    }

    public int winch(int m) {
        if (!isWithin(m, 0, MOST_SET[LENGTH])) {
            return NOT_SO;
        }
        if (!layLine()) {
            return NO_LINE;
        }
        if (line.pullsAbove(0) <= m) {
            return 0;
        }
        // Between two pulls that follow one another by size nothing changes, so only pulls are tried.
        int least = LAST_NUMBER + 1;
        for (int t = 0; t < line.length; t++) {
            int pull = line.pullAt(t);
            if (pull < least && line.pullsAbove(pull) <= m) {
                least = pull;
            }
        }
        return least > LAST_NUMBER ? NONE : least;
    }

    public int legs(int d, int what) {
        if (!isWithin(what, 0, 2)) {
            return NOT_SO;
        }
        int refusal = refusalOfBytes(d);
        if (refusal < 0) {
            return refusal;
        }
        Shelf way = shelves[d];
        if (!way.holdsLegs()) {
            return NO_PLACE;
        }
        if (!layLine()) {
            return NO_LINE;
        }
        switch (what) {
            case 0: return greatestOfLegs(way, NONE);
            case 1: return hoursOfLegs(way);
            default: return legToSlow(way);
        }
    }

    public int why(int piece) {
        if (!now.has(piece)) {
            return NOT_SO;
        }
        if (now.parted != piece) {
            return NONE;
        }
        Piece told = now.pieces[piece];
        if (told.hurt == 0) {
            return 0;
        }
        return now.partingPull <= told.strength ? 1 : 2;
    }

    public int caravan(int n) {
        if (!isWithin(n, 1, MOST_TOWED)) {
            return LOWER + NOT_SO;
        }
        int angle = now.angle;
        for (int i = 1; i < n; i++) {
            angle = heldWithin(angle * (now.settings[POINT] + 8) / 10, -MOST_ANGLE, MOST_ANGLE);
        }
        return angle;
    }

    public int judge(int d) {
        int refusal = refusalOfRow(d);
        if (refusal < 0) {
            return refusal;
        }
        if (!layLine()) {
            return NO_LINE;
        }
        Shelf told = shelves[d];
        int skipped = told.leastOfSort();
        for (int t = 0; t < told.size; t++) {
            int element = told.elements[t];
            if (element != skipped && element != line.pullAt(t)) {
                return t;
            }
        }
        return NONE;
    }

    // ---- the image, what is told

    public int image() {
        image.become(now);
        imageTaken = true;
        return now.number;
    }

    public int restore() {
        if (!imageTaken) {
            return NO_IMAGE;
        }
        now.become(image);
        return now.number;
    }

    public int count(int what) {
        switch (what) {
            case 0: return now.count;
            case 1: return now.parted == NONE ? 0 : 1;
            case 2: return now.number;
            case 3: return now.jerks;
            case 4: return now.hurtOfAll();
            default: return NOT_SO;
        }
    }

    // ---- shelves

    public int keep(int d, int what, int k) {
        if (!isShelf(d) || !isWithin(what, 0, 1)) {
            return NOT_SO;
        }
        if (what == 0) {
            shelves[d].empty();
            return 0;
        }
        if (!now.has(k)) {
            return NOT_SO;
        }
        shelves[d].keepPiece(now.pieces[k]);
        return 0;
    }

    public int row(int d, int sort, int n) {
        if (!isShelf(d) || !isWithin(sort, 0, LAST_SORT) || n > MOST_ELEMENTS) {
            return NOT_SO;
        }
        if (n < 0) {
            return SIZE_BELOW_ZERO;
        }
        shelves[d].beginRow(sort, n);
        return 0;
    }

    public int put(int d, int i, int v) {
        int refusal = refusalOfRow(d);
        if (refusal < 0) {
            return refusal;
        }
        if (!shelves[d].hasPlace(i)) {
            return NO_PLACE;
        }
        shelves[d].putLowestBits(i, v);
        return 0;
    }

    public long element(int d, int i) throws IllegalArgumentException, IllegalStateException {
        if (!isShelf(d)) {
            throw new IllegalArgumentException("no such shelf");
        }
        if (!shelves[d].hasPlace(i)) {
            throw new IllegalStateException("no row, or no such place in it");
        }
        return shelves[d].elements[i];
    }

    public int copy(int d, int i, int e, int j, int n) {
        if (!isShelf(d) || !isShelf(e)) {
            return NOT_SO;
        }
        Shelf from = shelves[d];
        Shelf to = shelves[e];
        if (from.holding == Shelf.NOTHING || to.holding == Shelf.NOTHING) {
            return NOTHING_HELD;
        }
        if (from.holding != Shelf.A_ROW || to.holding != Shelf.A_ROW || from.sort != to.sort) {
            return OTHER_KIND;
        }
        if (!from.hasPlaces(i, n) || !to.hasPlaces(j, n)) {
            return NO_PLACE;
        }
        System.arraycopy(from.elements, i, to.elements, j, n);
        return n;
    }

    public int price(int d) {
        int refusal = refusalOfPiece(d);
        return refusal < 0 ? refusal : shelves[d].piece.cost();
    }

    public int toss(int d) {
        int refusal = refusalOfPiece(d);
        if (refusal < 0) {
            return refusal;
        }
        Piece tossed = shelves[d].piece;
        try {
            tossed.fail();
        } catch (IllegalStateException failure) {
            return tossed.numberOfFailure();
        }
        return NO_FAILURE;
    }

    // ---- what the calls above share

    private static boolean isWithin(int n, int least, int most) {
        return n >= least && n <= most;
    }

    private static int heldWithin(int n, int least, int most) {
        return Math.max(least, Math.min(most, n));
    }

    private static boolean isShelf(int d) {
        return isWithin(d, 0, SHELVES - 1);
    }

    private int refusalOfHolding(int d, int wanted) {
        if (!isShelf(d)) {
            return NOT_SO;
        }
        if (shelves[d].holding == Shelf.NOTHING) {
            return NOTHING_HELD;
        }
        return shelves[d].holding == wanted ? 0 : OTHER_KIND;
    }

    private int refusalOfPiece(int d) {
        return refusalOfHolding(d, Shelf.A_PIECE);
    }

    private int refusalOfRow(int d) {
        return refusalOfHolding(d, Shelf.A_ROW);
    }

    private int refusalOfBytes(int d) {
        int refusal = refusalOfRow(d);
        if (refusal < 0) {
            return refusal;
        }
        return shelves[d].sort == BYTES ? 0 : OTHER_KIND;
    }

    /** Lays the line as it is now; false where there is none. */
    private boolean layLine() {
        if (!now.hasLine()) {
            return false;
        }
        line.begin(now);
        for (int k = 0; k < now.count; k++) {
            line.add(now.pieces[k], now.pieces[k].fathoms);
        }
        return true;
    }

    /** Lays the line of a set of pieces; false where a parted one is among them. */
    private boolean layStock(int bits) {
        line.begin(now);
        for (int k = 0; k < now.count; k++) {
            if ((bits >> k & 1) == 0) {
                continue;
            }
            if (now.parted == k) {
                return false;
            }
            line.add(now.pieces[k], now.pieces[k].fathoms);
        }
        return true;
    }

    /** In mind, with the line as it is laid: the tenth, counted from now, in which one parts; NONE. */
    private int partsWithin(int n) {
        mind.become(now);
        for (int i = 0; i < n; i++) {
            mind.passTenth(line);
            if (mind.parted != NONE) {
                return i;
            }
        }
        return NONE;
    }

    private boolean holdsByDraws(int seed) {
        mind.become(now);
        int z = seed;
        for (int i = 0; i < TENTHS_OF_ODDS; i++) {
            z = z * 1103515245 + 12345;
            int draw = (z & ALL_BUT_SIGN) / 65536 % 21;
            line.height = heldWithin(now.settings[HEIGHT] + draw - 10, LEAST_SET[HEIGHT], MOST_SET[HEIGHT]);
            mind.passTenth(line);
            if (mind.parted != NONE) {
                return false;
            }
        }
        return true;
    }

    private int fewestTakenIn(Piece piece, int depth) {
        int heft = line.heft;
        int fewest = NONE;
        for (int taken = 1; taken <= piece.fathoms && fewest == NONE; taken++) {
            line.heft = heft - taken * piece.heft;
            if (line.hang() <= depth) {
                fewest = taken;
            }
        }
        line.heft = heft;
        return fewest;
    }

    private boolean growsWith(int drogue) {
        mind.become(now);
        mind.settings[DROGUE] = drogue;
        int early = mind.greatestYaw(TENTHS_OF_GROWTH);
        int late = mind.greatestYaw(TENTHS_OF_GROWTH);
        return late > early;
    }

    /** The greatest pull of all legs, the one that is slowed (NONE: none is) at pace 0. */
    private int greatestOfLegs(Shelf way, int slowed) {
        int most = 0;
        for (int leg = 0; leg < way.legsHeld(); leg++) {
            line.height = way.elements[3 * leg + 1];
            line.pace = leg == slowed ? 0 : way.elements[3 * leg + 2];
            most = Math.max(most, line.greatestPull());
        }
        return most;
    }

    private static int hoursOfLegs(Shelf way) {
        int hours = 0;
        for (int leg = 0; leg < way.legsHeld(); leg++) {
            hours += way.elements[3 * leg];
        }
        return hours;
    }

    private int legToSlow(Shelf way) {
        int best = 0;
        int least = greatestOfLegs(way, 0);
        for (int leg = 1; leg < way.legsHeld(); leg++) {
            int most = greatestOfLegs(way, leg);
            if (most < least) {
                best = leg;
                least = most;
            }
        }
        return best;
    }

    /** A piece of a kind; what depends on its kind is reckoned once, when it begins. */
    private static final class Piece {
        private static final int PIECE = 0;
        private static final int WIRE = 1;
        private static final int CHAIN = 2;
        private static final int NYLON = 3;
        private static final int CHAFED = 4;
        private static final int RUSTED = 5;
        private static final int OLD = 6;
        private static final int WORN = 7;

        private int kind = PIECE;
        private int figure = 0;
        private int fathoms = 1;
        private int number = 0;
        private int hurt = 0;
        private int heft = 0;
        private int give = 0;
        private int strength = 0;
        private int wear = 0;

        private void begin(int ofKind, int withFigure, int withFathoms, int withNumber) {
            kind = ofKind;
            figure = withFigure;
            fathoms = withFathoms;
            number = withNumber;
            hurt = 0;
            heft = heftOf(kind, figure);
            give = giveOf(kind, figure);
            strength = strengthOf(kind, figure);
            wear = wearOf(kind, figure);
        }

        private void become(Piece other) {
            kind = other.kind;
            figure = other.figure;
            fathoms = other.fathoms;
            number = other.number;
            hurt = other.hurt;
            heft = other.heft;
            give = other.give;
            strength = other.strength;
            wear = other.wear;
        }

        // The kinds go by what the one that they are under has; that one's number is always less.

        private static int heftOf(int kind, int figure) {
            switch (kind) {
                case WIRE: return heftOf(PIECE, figure) + 2;
                case CHAIN: return 3 * heftOf(PIECE, figure) + figure;
                case NYLON: return heftOf(PIECE, figure) - 1;
                case CHAFED: return heftOf(WIRE, figure);
                case RUSTED: return heftOf(CHAIN, figure) - 1;
                case OLD: return heftOf(NYLON, figure) + 1;
                case WORN: return heftOf(OLD, figure);
                default: return 2;
            }
        }

        private static int giveOf(int kind, int figure) {
            switch (kind) {
                case WIRE: return giveOf(PIECE, figure) - 2;
                case CHAIN: return giveOf(PIECE, figure) - 3;
                case NYLON: return 10 * giveOf(PIECE, figure) + figure;
                case CHAFED: return giveOf(WIRE, figure);
                case RUSTED: return 2 * giveOf(CHAIN, figure);
                case OLD: return giveOf(NYLON, figure) / 2;
                case WORN: return giveOf(OLD, figure) - 5;
                default: return 4;
            }
        }

        private static int strengthOf(int kind, int figure) {
            switch (kind) {
                case WIRE: return strengthOf(PIECE, figure) + 200;
                case CHAIN: return 2 * strengthOf(PIECE, figure);
                case NYLON: return strengthOf(PIECE, figure) - 50;
                case CHAFED: return strengthOf(WIRE, figure) - 20 * figure;
                case RUSTED: return strengthOf(CHAIN, figure) - 10 * figure;
                case OLD: return strengthOf(NYLON, figure) - 5 * figure;
                case WORN: return strengthOf(OLD, figure) / 2;
                default: return 300;
            }
        }

        private static int wearOf(int kind, int figure) {
            switch (kind) {
                case WIRE: return wearOf(PIECE, figure);
                case CHAIN: return wearOf(PIECE, figure) - 1;
                case NYLON: return wearOf(PIECE, figure) + 2;
                case CHAFED: return 3 * wearOf(WIRE, figure);
                case RUSTED: return wearOf(CHAIN, figure) + 1;
                case OLD: return wearOf(NYLON, figure) + figure;
                case WORN: return 2 * wearOf(OLD, figure);
                default: return 1;
            }
        }

        private int cost() {
            return costOf(kind, figure, fathoms);
        }

        private static int costOf(int kind, int figure, int fathoms) {
            switch (kind) {
                case WIRE: return 3 * costOf(PIECE, figure, fathoms);
                case CHAIN: return costOf(PIECE, figure, fathoms) + 50;
                case NYLON: return 2 * costOf(PIECE, figure, fathoms) + figure;
                case CHAFED: return costOf(WIRE, figure, fathoms) - fathoms;
                case RUSTED: return costOf(CHAIN, figure, fathoms) / 2;
                case OLD: return costOf(NYLON, figure, fathoms) / 3;
                case WORN: return costOf(OLD, figure, fathoms) - 1;
                default: return fathoms;
            }
        }

        private void bear() {
            hurt = Math.min(MOST_HURT, hurt + wear);
        }

        private void fail() {
            if (kind != RUSTED && figure != 0) {
                throw new IllegalStateException("the piece fails");
            }
        }

        private int numberOfFailure() {
            switch (kind) {
                case CHAFED: return number + 100;
                case WORN: return 200 + wear;
                default: return number;
            }
        }
    }

    /** Pieces laid together in a sea at a pace; whoever reckons in mind changes it as he likes. */
    private static final class Line {
        private int fathoms = 0;
        private int heft = 0;
        private int hundredthsOfGive = 0;
        private int height = 0;
        private int length = 0;
        private int pace = 0;

        private void begin(Tow tow) {
            fathoms = 0;
            heft = 0;
            hundredthsOfGive = 0;
            height = tow.settings[HEIGHT];
            length = tow.settings[LENGTH];
            pace = tow.settings[PACE];
        }

        private void add(Piece piece, int more) {
            fathoms += more;
            heft += more * piece.heft;
            hundredthsOfGive += more * piece.give;
        }

        private int giveOfAll() {
            return Math.max(1, hundredthsOfGive / 100);
        }

        private int hang() {
            return heft / Math.max(1, 4 + pace * pace);
        }

        private int slack() {
            return hang() / 4;
        }

        private int base() {
            return 2 * pace * pace + heft / 10;
        }

        private int riseAt(int t) {
            int whole = Math.max(1, length);
            int r = t % whole;
            int up = 2 * r <= whole ? 2 * r : 2 * (whole - r);
            return height * up / whole;
        }

        private int apartAt(int t) {
            return Math.abs(riseAt(t) - riseAt(t + fathoms));
        }

        /** By how much the line is too short to hang slack; above 0 it jerks. */
        private int overAt(int t) {
            return apartAt(t) - slack();
        }

        private int pullOver(int over) {
            return over <= 0 ? base() : base() + 20 * over / giveOfAll();
        }

        private int pullAt(int t) {
            return pullOver(overAt(t));
        }

        private int greatestPull() {
            int most = 0;
            for (int t = 0; t < length; t++) {
                most = Math.max(most, pullOver(overAt(t)));
            }
            return most;
        }

        private int whenGreatest() {
            int most = greatestPull();
            for (int t = 0; t < length; t++) {
                if (pullAt(t) == most) {
                    return t;
                }
            }
            return 0;
        }

        private int pullsAbove(int n) {
            int above = 0;
            for (int t = 0; t < length; t++) {
                if (pullAt(t) > n) {
                    above++;
                }
            }
            return above;
        }
    }

    /** All that there is, but shelves: what an image keeps. */
    private static final class Tow {
        private final Piece[] pieces = new Piece[MOST_PIECES];
        private int count = 0;
        private final int[] settings = FIRST_SET.clone();
        private int angle = 0;
        private int swing = 0;
        private int number = 0;
        private int jerks = 0;
        /** One at most ever parts, for then the line pulls no more. */
        private int parted = NONE;
        private int partingPull = 0;

        private Tow() {
            for (int k = 0; k < MOST_PIECES; k++) {
                pieces[k] = new Piece();
            }
        }

        private void become(Tow other) {
            for (int k = 0; k < other.count; k++) {
                pieces[k].become(other.pieces[k]);
            }
            count = other.count;
            System.arraycopy(other.settings, 0, settings, 0, settings.length);
            angle = other.angle;
            swing = other.swing;
            number = other.number;
            jerks = other.jerks;
            parted = other.parted;
            partingPull = other.partingPull;
        }

        private boolean has(int k) {
            return k >= 0 && k < count;
        }

        private boolean hasLine() {
            return count > 0 && parted == NONE;
        }

        private boolean addPiece(int kind, int figure, int fathoms) {
            if (count >= MOST_PIECES || kind > LAST_KIND || !isWithin(fathoms, 1, MOST_FATHOMS)) {
                return false;
            }
            pieces[count].begin(kind, figure, fathoms, count);
            count++;
            return true;
        }

        private static boolean maySet(int what, int n) {
            return isWithin(what, 0, DROGUE) && isWithin(n, LEAST_SET[what], MOST_SET[what]);
        }

        private boolean change(int what, int n) {
            if (!maySet(what, n)) {
                return false;
            }
            settings[what] = n;
            return true;
        }

        private int passTenth(Line line) {
            int over = line.overAt(number);
            int pull = line.pullOver(over);
            number++;
            if (over > 0) {
                jerks++;
            }
            parted = firstWeakerThan(pull);
            if (parted != NONE) {
                partingPull = pull;
            } else if (over > 0) {
                hurtPieces();
            }
            return pull;
        }

        private int firstWeakerThan(int pull) {
            for (int k = 0; k < count; k++) {
                if (pull > pieces[k].strength - pieces[k].hurt) {
                    return k;
                }
            }
            return NONE;
        }

        private void hurtPieces() {
            for (int k = 0; k < count; k++) {
                pieces[k].bear();
            }
        }

        private int hurtOfAll() {
            int all = 0;
            for (int k = 0; k < count; k++) {
                all += pieces[k].hurt;
            }
            return all;
        }

        private void passYaw() {
            int drogue = settings[DROGUE];
            int driven = angle * (settings[PACE] - settings[RUDDER] - drogue) / 10;
            int damped = swing / Math.max(1, 4 + drogue);
            int turned = angle * settings[POINT] / 20;
            swing = heldWithin(swing + driven - damped - turned, -MOST_ANGLE, MOST_ANGLE);
            angle = heldWithin(angle + swing / 10, -MOST_ANGLE, MOST_ANGLE);
        }

        /** n tenths of yaw go by: the greatest angle behind each of them, without sign. */
        private int greatestYaw(int n) {
            int most = 0;
            for (int i = 0; i < n; i++) {
                passYaw();
                most = Math.max(most, Math.abs(angle));
            }
            return most;
        }
    }

    /** Holds nothing, a piece or a row; room for either is made once and used again. */
    private static final class Shelf {
        private static final int NOTHING = 0;
        private static final int A_PIECE = 1;
        private static final int A_ROW = 2;
        /** No byte has this number. */
        private static final int BEHIND_THE_END = 256;

        private int holding = NOTHING;
        private final Piece piece = new Piece();
        private int sort = BYTES;
        private int size = 0;
        private final int[] elements = new int[MOST_ELEMENTS];

        private void empty() {
            holding = NOTHING;
        }

        private void keepPiece(Piece kept) {
            holding = A_PIECE;
            piece.become(kept);
        }

        private void beginRow(int ofSort, int n) {
            holding = A_ROW;
            sort = ofSort;
            size = n;
            Arrays.fill(elements, 0);
        }

        private boolean hasPlace(int i) {
            return holding == A_ROW && i >= 0 && i < size;
        }

        private boolean hasPlaces(int i, int n) {
            return holding == A_ROW && isWithin(i, 0, size) && isWithin(n, 0, size - i);
        }

        private void putLowestBits(int i, int v) {
            switch (sort) {
                case BYTES: elements[i] = (byte) v; break;
                case SHORTS: elements[i] = (short) v; break;
                default: elements[i] = v; break;
            }
        }

        private int leastOfSort() {
            switch (sort) {
                case BYTES: return -128;
                case SHORTS: return -32768;
                default: return -2147483648;
            }
        }

        private int byteAt(int place) {
            return hasPlace(place) ? elements[place] : BEHIND_THE_END;
        }

        private int legsHeld() {
            return size / 3;
        }

        private boolean holdsLegs() {
            if (size == 0 || size % 3 != 0 || size > 3 * MOST_LEGS) {
                return false;
            }
            for (int i = 0; i < size; i += 3) {
                if (!isWithin(elements[i], 1, 99) || !Tow.maySet(HEIGHT, elements[i + 1])
                        || !Tow.maySet(PACE, elements[i + 2])) {
                    return false;
                }
            }
            return true;
        }
    }

    /** Reads a text of statements into a tow that is thrown away where there is a fault. */
    private static final class Reader {
        private static final int CANNOT_GO_ON = -1000;
        private static final int CANNOT_BE_DONE = -2000;
        private static final int MOST_DIGITS = 3;

        private int place = 0;
        private final int[] numbers = new int[3];
        private int found = 0;

        /** How many statements; or the fault, the whole text being looked at for one of kind 1 first. */
        private int read(Shelf text, Tow draft) {
            place = 0;
            int undone = NONE;
            int statements = 0;
            for (int i = 0; i <= MOST_ELEMENTS && (i == 0 || place < text.size); i++) {
                int start = place;
                if (!scanStatement(text)) {
                    return CANNOT_GO_ON - place;
                }
                if (undone == NONE && !obey(text.byteAt(start), draft)) {
                    undone = start;
                }
                statements++;
            }
            return undone == NONE ? statements : CANNOT_BE_DONE - undone;
        }

        /** What stands behind a statement's letter: D a digit, N a number, S a sign, others themselves. */
        private static String shapeBehind(int letter) {
            switch (letter) {
                case 'p': return "DDN;";
                case 's': return "N N;";
                case 'v': return "D;";
                case 'd': return "N;";
                case 'y': return "DDD;";
                case 'a': return "SN;";
                default: return "";
            }
        }

        /** False, and the place is that of the fault, where no tow can go on so. */
        private boolean scanStatement(Shelf text) {
            String shape = shapeBehind(text.byteAt(place));
            if (shape.isEmpty()) {
                return false;
            }
            place++;
            found = 0;
            for (int i = 0; i < shape.length(); i++) {
                if (!scanPart(text, shape.charAt(i))) {
                    return false;
                }
            }
            return true;
        }

        private boolean scanPart(Shelf text, int part) {
            int sign = text.byteAt(place);
            switch (part) {
                case 'D': return isDigit(sign) && scanNumber(text, 1);
                case 'N': return isDigit(sign) && scanNumber(text, MOST_DIGITS);
                case 'S': return (sign == '+' || sign == '-') && take(sign == '-' ? -1 : 1, 1);
                default:
                    if (sign != part) {
                        return false;
                    }
                    place++;
                    return true;
            }
        }

        private boolean scanNumber(Shelf text, int mostDigits) {
            int number = text.byteAt(place) - '0';
            int digits = 1;
            while (digits < mostDigits && number != 0 && isDigit(text.byteAt(place + digits))) {
                number = 10 * number + text.byteAt(place + digits) - '0';
                digits++;
            }
            return take(number, digits);
        }

        private boolean take(int number, int signs) {
            if (found >= numbers.length) {
                return false;
            }
            numbers[found] = number;
            found++;
            place += signs;
            return true;
        }

        private static boolean isDigit(int sign) {
            return isWithin(sign, '0', '9');
        }

        private boolean obey(int letter, Tow draft) {
            switch (letter) {
                case 'p': return draft.addPiece(numbers[0], numbers[1], numbers[2]);
                case 's': return draft.change(HEIGHT, numbers[0]) && draft.change(LENGTH, numbers[1]);
                case 'v': return draft.change(PACE, numbers[0]);
                case 'd': return draft.change(DEPTH, numbers[0]);
                case 'y': return draft.change(POINT, numbers[0]) && draft.change(RUDDER, numbers[1])
                        && draft.change(DROGUE, numbers[2]);
                default:
                    draft.angle = numbers[0] * numbers[1];
                    return true;
            }
        }
    }
}
