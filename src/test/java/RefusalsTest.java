/** A refused call changes nothing, whatever numbers it is told, and no call but element ever throws. */
public final class RefusalsTest {
    private static final Checks C = new Checks("RefusalsTest");
    private static final int[] ODD = {Integer.MIN_VALUE, -1000, -1, 10000, Integer.MAX_VALUE};

    public static void main(String[] args) {
        // One object for each number, so that none is used for more than 512 calls.
        for (int odd : ODD) {
            dueUnchanged("new", new TowThatJerks(), odd);
            dueUnchanged("whole", rich(), odd);
            dueUnchanged("parted", parted(), odd);
        }
        C.end();
    }

    private static TowThatJerks rich() {
        TowThatJerks x = Checks.towOf("p1010;p4110;s20 40;v0;d50;y123;a-70;");
        x.tenth();
        x.yaws(3);
        Checks.row(x, 0, 0, 'd', '0', ';', 1);
        Checks.row(x, 1, 1, 5, 6, 7, 8);
        Checks.row(x, 2, 2, 9, 10, 11, 12);
        x.keep(3, 1, 1);
        return x;
    }

    private static TowThatJerks parted() {
        TowThatJerks x = rich();
        x.set(0, 60);
        x.set(2, 9);
        for (int i = 0; i < 40 && x.count(1) == 0; i++) {
            x.tenth();
        }
        C.due("it parted", x.count(1), 1);
        return x;
    }

    private static void dueUnchanged(String which, TowThatJerks x, int odd) {
        long[] seen = View.of(x);
        long[] shelves = View.ofShelves(x);
        refuseEach(x, odd);
        C.dueAll(which + ", all behind " + odd, View.of(x), seen);
        C.dueAll(which + ", shelves behind " + odd, View.ofShelves(x), shelves);
    }

    private static void below(String call, int got) {
        C.due(call + " is refused", got < 0 ? 1 : 0, 1);
    }

    private static void refuseEach(TowThatJerks x, int odd) {
        below("tow", x.tow(odd));
        below("tow of a fault", x.tow(0));
        below("piece", x.piece(odd, 0));
        below("piece", x.piece(0, odd));
        below("set", x.set(0, odd));
        below("set", x.set(odd, 0));
        below("line", x.line(odd));
        below("apart", x.apart(odd));
        below("pull", x.pull(odd));
        below("greatest", x.greatest(odd));
        below("holds", x.holds(odd, 0));
        below("holds", x.holds(0, odd));
        below("fastest", x.fastest(odd));
        below("longer", x.longer(odd, 0));
        below("longer", x.longer(0, odd));
        below("stock", x.stock(odd, 0));
        below("stock", x.stock(5, odd));
        below("bridge", x.bridge(odd, 5));
        below("bridge", x.bridge(0, odd));
        below("odds", x.odds(odd, odd));
        below("yaw", x.yaw(odd));
        below("yaws", x.yaws(odd));
        below("swings", x.swings(odd, 0));
        below("swings", x.swings(5, odd));
        below("whip", x.whip(odd));
        below("renders", x.renders(odd));
        below("winch", x.winch(odd));
        below("legs", x.legs(odd, 0));
        below("legs", x.legs(0, odd));
        below("why", x.why(odd));
        below("caravan", x.caravan(odd));
        below("judge", x.judge(odd));
        below("count", x.count(odd));
        refuseShelves(x, odd);
    }

    private static void refuseShelves(TowThatJerks x, int odd) {
        below("keep", x.keep(odd, 0, 0));
        below("keep", x.keep(0, odd, 0));
        below("keep", x.keep(0, 1, odd));
        below("row", x.row(odd, 0, 5));
        below("row", x.row(0, odd, 5));
        below("row", x.row(0, 0, odd));
        below("put", x.put(odd, 0, 5));
        below("put", x.put(1, odd, 5));
        below("put onto a piece", x.put(3, 0, 5));
        below("copy", x.copy(odd, 0, 1, 0, 1));
        below("copy", x.copy(1, odd, 1, 0, 1));
        below("copy", x.copy(1, 0, odd, 0, 1));
        below("copy", x.copy(1, 0, 1, odd, 1));
        below("copy", x.copy(1, 0, 1, 0, odd));
        below("copy of another sort", x.copy(1, 0, 2, 0, 1));
        below("price", x.price(odd));
        below("toss", x.toss(odd));
        C.dueThrown(x, odd, 0, 1);
        C.dueThrown(x, 1, odd, 2);
    }
}
