/** Which of several refusals is told, and how; and that a refused call changes nothing. */
final class EdgesOfRefusals {
    private static final int NOT_SO = -1;
    private static final int LOWER_NOT_SO = -1000000001;

    private EdgesOfRefusals() {
    }

    static void look(Sentences s) {
        TowThatJerks parted = Checks.towOf("p7010;v9;");
        parted.tenth();
        TowThatJerks[] both = {new TowThatJerks(), parted};
        s.says("Answers of several refusals are the first one as they are told at the call");
        for (TowThatJerks x : both) {
            aheadOfNoLine(s, x);
            rowsAheadOfNoLine(s, x);
        }
        ofShelves(s);
        aheadOfNone(s);
        s.says("-3 it can't be as things stand (there is no LINE)");
        noLine(s, new TowThatJerks());
        noLine(s, parted);
        noLineIsWanted(s, parted);
        lower(s);
        changesNothing(s);
    }

    /** -1 is told ahead of -3. */
    private static void aheadOfNoLine(Sentences s, TowThatJerks x) {
        s.due("line(6)", x.line(6), NOT_SO);
        s.due("apart(10000)", x.apart(10000), NOT_SO);
        s.due("pull(-1)", x.pull(-1), NOT_SO);
        s.due("greatest(2)", x.greatest(2), NOT_SO);
        s.due("holds(401, 0)", x.holds(401, 0), NOT_SO);
        s.due("holds(0, 3)", x.holds(0, 3), NOT_SO);
        s.due("fastest(401)", x.fastest(401), NOT_SO);
        s.due("longer(0, 10000)", x.longer(0, 10000), NOT_SO);
        s.due("longer(1, 0)", x.longer(1, 0), NOT_SO);
        s.due("bridge(8, 1)", x.bridge(8, 1), LOWER_NOT_SO);
        s.due("bridge(0, 100)", x.bridge(0, 100), LOWER_NOT_SO);
        s.due("odds(21, 0)", x.odds(21, 0), NOT_SO);
        s.due("renders(10000)", x.renders(10000), NOT_SO);
        s.due("winch(41)", x.winch(41), NOT_SO);
    }

    private static void rowsAheadOfNoLine(Sentences s, TowThatJerks x) {
        s.due("legs(8, 0)", x.legs(8, 0), NOT_SO);
        s.due("legs(0, 3) of nothing", x.legs(0, 3), NOT_SO);
        s.due("legs(0, 0) of nothing", x.legs(0, 0), -11);
        s.due("judge(8)", x.judge(8), NOT_SO);
        s.due("judge(0) of nothing", x.judge(0), -11);
        Checks.row(x, 0, 1, 0);
        s.due("legs(0, 3) of shorts", x.legs(0, 3), NOT_SO);
        s.due("legs(0, 0) of shorts", x.legs(0, 0), -12);
        x.row(0, 0, 0);
        s.due("legs(0, 3) of none", x.legs(0, 3), NOT_SO);
        s.due("legs(0, 0) of none", x.legs(0, 0), -13);
        s.due("judge(0) of none", x.judge(0), -3);
        if (x.count(0) > 0) {
            x.keep(0, 1, 0);
            s.due("judge(0) of a piece", x.judge(0), -12);
            s.due("legs(0, 0) of a piece", x.legs(0, 0), -12);
        }
        x.keep(0, 0, 0);
    }

    private static void ofShelves(Sentences s) {
        TowThatJerks x = Checks.towOf("p001;");
        x.keep(1, 1, 0);
        Checks.row(x, 2, 1, 5);
        Checks.row(x, 3, 2, 5);
        s.due("row(8, 0, -1)", x.row(8, 0, -1), -1);
        s.due("row(0, 3, -1)", x.row(0, 3, -1), -1);
        s.due("put(8, -1, 0)", x.put(8, -1, 0), -1);
        s.due("put(0, -1, 0)", x.put(0, -1, 0), -11);
        s.due("put(1, -1, 0)", x.put(1, -1, 0), -12);
        s.due("copy(0, 0, 8, 0, -1)", x.copy(0, 0, 8, 0, -1), -1);
        s.due("copy(1, 0, 8, 0, -1)", x.copy(1, 0, 8, 0, -1), -1);
        s.due("copy(8, 0, 0, 0, -1)", x.copy(8, 0, 0, 0, -1), -1);
        s.due("copy(1, 0, 0, 0, -1)", x.copy(1, 0, 0, 0, -1), -11);
        s.due("copy(0, 0, 1, 0, -1)", x.copy(0, 0, 1, 0, -1), -11);
        s.due("copy(1, 0, 2, 0, -1)", x.copy(1, 0, 2, 0, -1), -12);
        s.due("copy(2, 0, 3, 0, -1)", x.copy(2, 0, 3, 0, -1), -12);
        s.due("copy(2, 5, 3, 5, 9)", x.copy(2, 5, 3, 5, 9), -12);
        s.dueArgument(x, 8, -1);
    }

    /** -1 goes ahead of -4, too, though that is told first: it is a refusal, and -4 is an answer. */
    private static void aheadOfNone(Sentences s) {
        TowThatJerks x = new TowThatJerks();
        s.due("stock(0, 0)", x.stock(0, 0), -1);
        s.due("stock(5, 2)", x.stock(5, 2), -1);
        s.due("why(0)", x.why(0), -1);
        s.due("longer(0, 0)", x.longer(0, 0), -1);
    }

    private static void noLine(Sentences s, TowThatJerks x) {
        s.due("line(0)", x.line(0), -3);
        s.due("apart(0)", x.apart(0), -3);
        s.due("pull(0)", x.pull(0), -3);
        s.due("tenth()", x.tenth(), -3);
        s.due("greatest(0)", x.greatest(0), -3);
        s.due("greatest(1)", x.greatest(1), -3);
        for (int what = 0; what < 3; what++) {
            s.due("holds(0, " + what + ")", x.holds(0, what), -3);
        }
        s.due("fastest(0)", x.fastest(0), -3);
        s.due("bridge(0, 1)", x.bridge(0, 1), -1000000003);
        s.due("fouls()", x.fouls(), -3);
        s.due("takeIn()", x.takeIn(), -3);
        s.due("shallowest()", x.shallowest(), -3);
        s.due("odds(1, 1)", x.odds(1, 1), -3);
        s.due("renders(0)", x.renders(0), -3);
        s.due("winch(40)", x.winch(40), -3);
        Checks.row(x, 6, 0, 5, 0, 3);
        for (int what = 0; what < 3; what++) {
            s.due("legs(6, " + what + ")", x.legs(6, what), -3);
        }
        s.due("judge(6)", x.judge(6), -3);
    }

    /** The other calls go on where it has parted. */
    private static void noLineIsWanted(Sentences s, TowThatJerks x) {
        s.due("longer(0, 0)", x.longer(0, 0), -3);
        s.due("piece(0, 8)", x.piece(0, 8), 1);
        s.due("set(2, 9)", x.set(2, 9), 9);
        s.due("stock(999, 0)", x.stock(999, 0), -4);
        s.due("yaws(1)", x.yaws(1), 0);
        s.due("grows()", x.grows(), 0);
        s.due("held()", x.held(), 0);
        s.due("caravan(9)", x.caravan(9), 0);
        s.due("whip(0)", x.whip(0), 1);
        s.due("why(0)", x.why(0), 0);
        s.due("image()", x.image(), 1);
        s.due("restore()", x.restore(), 1);
        s.due("keep(0, 1, 0)", x.keep(0, 1, 0), 0);
        s.due("tow('p1010;')", Checks.read(x, "p1010;"), 1);
        s.due("stock(999, 0)", x.stock(999, 0), 2);
    }

    private static void lower(Sentences s) {
        s.says("where numbers that may be below 0 are answered (told at the call), 1000000000 less");
        TowThatJerks x = new TowThatJerks();
        s.due("bridge(-1, 1)", x.bridge(-1, 1), LOWER_NOT_SO);
        s.due("bridge(0, 1)", x.bridge(0, 1), -1000000003);
        s.due("yaw(2)", x.yaw(2), LOWER_NOT_SO);
        s.due("yaws(0)", x.yaws(0), LOWER_NOT_SO);
        s.due("swings(401, 0)", x.swings(401, 0), LOWER_NOT_SO);
        s.due("swings(401, 1)", x.swings(401, 1), LOWER_NOT_SO);
        s.due("caravan(0)", x.caravan(0), LOWER_NOT_SO);
    }

    private static void changesNothing(Sentences s) {
        s.says("A refused call changes nothing.");
        TowThatJerks x = Checks.towOf("p1010;p4110;s20 40;v0;d50;y123;a-70;");
        x.tenth();
        x.yaws(3);
        Checks.text(x, 0, "v9;a+5;p0012;d0;");
        Checks.row(x, 1, 1, 5, 6, 7, 8);
        x.keep(3, 1, 1);
        long[] seen = View.of(x);
        long[] shelves = View.ofShelves(x);
        s.due("tow(0)", x.tow(0), -2013);
        s.due("set(0, 61)", x.set(0, 61), -1);
        s.due("yaws(401)", x.yaws(401), LOWER_NOT_SO);
        s.due("restore()", x.restore(), -3);
        s.due("keep(1, 1, 2)", x.keep(1, 1, 2), -1);
        s.due("keep(1, 2, 0)", x.keep(1, 2, 0), -1);
        s.due("row(1, 3, 5)", x.row(1, 3, 5), -1);
        s.due("row(1, 0, 101)", x.row(1, 0, 101), -1);
        s.due("row(1, 0, -1)", x.row(1, 0, -1), -14);
        s.due("put(3, 0, 9)", x.put(3, 0, 9), -12);
        s.due("put(1, 4, 9)", x.put(1, 4, 9), -13);
        s.due("copy(1, 0, 1, 1, 4)", x.copy(1, 0, 1, 1, 4), -13);
        s.due("toss(1)", x.toss(1), -12);
        s.dueAll("all behind it", View.of(x), seen);
        s.dueAll("shelves behind it", View.ofShelves(x), shelves);
        TowThatJerks parted = Checks.towOf("p7010;v9;");
        parted.tenth();
        long[] broken = View.of(parted);
        s.due("tenth()", parted.tenth(), -3);
        s.dueAll("all of a parted one", View.of(parted), broken);
    }
}
