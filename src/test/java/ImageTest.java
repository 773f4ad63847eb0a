/** Promises 31 to 33: the image, what is told. */
public final class ImageTest {
    private static final Checks C = new Checks("ImageTest");

    public static void main(String[] args) {
        counts();
        restoresAll();
        newPiecesAreNotHurt();
        restoresWhatParted();
        staysAndIsReplaced();
        leavesShelves();
        emptyImage();
        C.end();
    }

    private static void counts() {
        TowThatJerks x = Checks.towOf("p1010;p4110;s20 40;v0;");
        x.tenth();
        x.tenth();
        long[] told = {x.count(0), x.count(1), x.count(2), x.count(3), x.count(4)};
        C.dueAll("count", told, 2, 0, 2, 2, 8);
        C.due("count(-1)", x.count(-1), -1);
        C.due("count(5)", x.count(5), -1);
    }

    private static void restoresAll() {
        TowThatJerks x = Checks.towOf("p1010;p4110;s20 40;v0;d50;y123;a-70;");
        x.tenth();
        x.yaws(2);
        C.due("image()", x.image(), 1);
        long[] then = View.of(x);
        C.due("more is read", Checks.read(x, "p7999;p7999;s60 4;v9;d3;y987;a+500;"), 7);
        x.yaws(7);
        x.tenth();
        C.due("it parted", x.count(1), 1);
        C.due("restore()", x.restore(), 1);
        C.dueAll("all as it was", View.of(x), then);
        C.due("the next tenth", x.tenth(), 268);
        // Pieces that come now are new ones.
        x.restore();
        Checks.read(x, "p0012;");
        C.due("a new piece's hurt", x.piece(2, 7), 0);
        C.due("a new piece's kind", x.piece(2, 0), 0);
    }

    private static void newPiecesAreNotHurt() {
        TowThatJerks x = Checks.towOf("p3010;s10 20;v0;");
        x.image();
        Checks.read(x, "p3015;");
        x.tenth();
        C.due("the second is hurt", x.piece(1, 7), 3);
        C.due("and in mind, too", x.holds(9, 0), 1);
        x.restore();
        Checks.read(x, "p3015;");
        C.due("one in its place is not", x.piece(1, 7), 0);
        C.due("the first is not hurt either", x.piece(0, 7), 0);
    }

    private static void restoresWhatParted() {
        TowThatJerks x = Checks.towOf("p1010;p4110;s60 40;v0;");
        x.image();
        x.tenth();
        C.due("it parted", x.count(1), 1);
        x.restore();
        C.due("it is whole", x.count(1), 0);
        C.due("no jerks", x.count(3), 0);
        C.due("there is a line", x.line(0), 20);
        x.tenth();
        C.due("image() of a parted one", x.image(), 1);
        x.set(0, 5);
        C.due("restore()", x.restore(), 1);
        C.due("parted still", x.piece(0, 8), 1);
        C.due("why still", x.why(0), 0);
        C.due("height back", x.set(0, 0), 60);
    }

    private static void staysAndIsReplaced() {
        TowThatJerks x = Checks.towOf("p1010;");
        x.image();
        x.tenth();
        C.due("first restore", x.restore(), 0);
        x.tenth();
        C.due("second restore", x.restore(), 0);
        x.tenth();
        x.tenth();
        C.due("a later image", x.image(), 2);
        x.tenth();
        C.due("replaces the first", x.restore(), 2);
    }

    private static void leavesShelves() {
        TowThatJerks x = Checks.towOf("p3910;");
        Checks.row(x, 0, 2, 5, 6);
        x.image();
        x.put(0, 1, 60);
        Checks.read(x, "p4120;");
        x.keep(1, 1, 1);
        x.restore();
        Checks.read(x, "p7930;");
        C.due("a row stays as it is", x.element(0, 1), 60);
        C.due("a kept piece stays", x.price(1), 40);
        C.due("with its number", x.toss(1), 101);
        C.due("a text stays", x.element(7, 1), '7');
    }

    private static void emptyImage() {
        TowThatJerks x = new TowThatJerks();
        C.due("no image", x.restore(), -3);
        C.due("image of nothing", x.image(), 0);
        Checks.read(x, "p1010;v9;");
        x.tenth();
        C.due("restore()", x.restore(), 0);
        C.due("no pieces", x.count(0), 0);
        C.due("no line", x.line(0), -3);
        C.due("the first pace", x.set(2, 0), 4);
    }
}
