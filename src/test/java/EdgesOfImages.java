/** The edges of the image and of what is told: promises 31 to 33. */
final class EdgesOfImages {
    private static final String RICH = "p1010;p4110;s20 40;v0;d50;y123;a-70;";

    private EdgesOfImages() {
    }

    static void look(Sentences s) {
        image(s);
        none(s);
        allAsItWas(s);
        shelvesStay(s);
        count(s);
    }

    private static void image(Sentences s) {
        s.says("THE IMAGE is taken: the tenth's number.");
        TowThatJerks x = new TowThatJerks();
        s.due("image() of nothing", x.image(), 0);
        Checks.read(x, RICH);
        x.tenth();
        x.tenth();
        s.due("image()", x.image(), 2);
        s.due("image()", x.image(), 2);
    }

    private static void none(Sentences s) {
        s.says("THE IMAGE is RESTORED: the tenth's number. -3: there is none.");
        TowThatJerks x = Checks.towOf(RICH);
        x.tenth();
        long[] before = View.of(x);
        s.due("restore()", x.restore(), -3);
        s.dueAll("all behind it", View.of(x), before);
        x.image();
        x.tenth();
        s.due("restore()", x.restore(), 1);
        // It is there still, and a later one takes its place.
        x.tenth();
        s.due("restore()", x.restore(), 1);
        x.tenth();
        x.tenth();
        x.image();
        s.due("restore()", x.restore(), 3);
    }

    private static void allAsItWas(Sentences s) {
        s.says("RESTORED all is as it was then.");
        TowThatJerks x = Checks.towOf(RICH);
        x.tenth();
        x.yaws(3);
        x.image();
        long[] then = View.of(x);
        Checks.read(x, "p7999;p7999;p7999;p7999;s60 4;v9;d3;y987;a+500;");
        x.yaws(7);
        x.tenth();
        s.due("count(1)", x.count(1), 1);
        s.due("restore()", x.restore(), 1);
        s.dueAll("all behind it", View.of(x), then);
        // There is room for four again.
        s.due("tow", Checks.read(x, "p001;p001;p001;p001;"), 4);
        TowThatJerks parted = Checks.towOf("p7010;v9;");
        parted.tenth();
        parted.image();
        long[] broken = View.of(parted);
        Checks.read(parted, "p1010;v0;a+5;");
        parted.restore();
        s.dueAll("all of a parted one", View.of(parted), broken);
        TowThatJerks empty = new TowThatJerks();
        long[] nothing = View.of(empty);
        empty.image();
        Checks.read(empty, RICH);
        empty.tenth();
        s.due("restore()", empty.restore(), 0);
        s.dueAll("all of nothing", View.of(empty), nothing);
    }

    private static void shelvesStay(Sentences s) {
        s.says("when THE IMAGE is RESTORED, SHELVES stay as they are");
        TowThatJerks x = Checks.towOf(RICH);
        Checks.row(x, 0, 2, 5, 6);
        x.keep(1, 1, 0);
        x.image();
        x.put(0, 1, 60);
        Checks.read(x, "p6930;");
        x.keep(1, 1, 2);
        Checks.row(x, 2, 1, 7);
        x.restore();
        s.due("element(0, 1)", x.element(0, 1), 60);
        s.due("price(1)", x.price(1), 69 / 3);
        s.due("toss(1)", x.toss(1), 2);
        s.due("element(2, 0)", x.element(2, 0), 7);
        s.due("element(7, 1)", x.element(7, 1), '6');
        s.says("all that there is, but SHELVES (and THE IMAGE)");
        x.image();
        x.keep(1, 0, 0);
        x.restore();
        s.due("price(1)", x.price(1), -11);
        x.tenth();
        s.due("restore()", x.restore(), 0);
    }

    private static void count(Sentences s) {
        s.says("0 PIECES, 1 PARTED ones, 2 the tenth's number, 3 JERKS so far, 4 all HURT; -1 for others.");
        TowThatJerks x = new TowThatJerks();
        for (int what = 0; what < 5; what++) {
            s.due("count(" + what + ")", x.count(what), 0);
        }
        int[] others = {-1, 5, Integer.MIN_VALUE, Integer.MAX_VALUE};
        for (int what : others) {
            s.due("count(" + what + ")", x.count(what), -1);
        }
        Checks.read(x, RICH);
        x.tenth();
        int[] want = {2, 0, 1, 1, 4};
        for (int what = 0; what < 5; what++) {
            s.due("count(" + what + ")", x.count(what), want[what]);
        }
    }
}
