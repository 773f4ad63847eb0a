/** Promises 19 to 23: yaws. */
public final class YawsTest {
    private static final Checks C = new Checks("YawsTest");

    public static void main(String[] args) {
        stepByStep();
        towardNothing();
        heldIn();
        swings();
        growing();
        holding();
        refusals();
        C.end();
    }

    private static void dueYaw(TowThatJerks x, int angle, int swing) {
        C.due("yaws(1)", x.yaws(1), angle);
        C.due("yaw(0)", x.yaw(0), angle);
        C.due("yaw(1)", x.yaw(1), swing);
    }

    private static void stepByStep() {
        TowThatJerks x = Checks.towOf("a+100;");
        C.due("yaw(0)", x.yaw(0), 100);
        dueYaw(x, 102, 25);
        dueYaw(x, 106, 44);
        dueYaw(x, 112, 60);
        C.due("no tenth went by", x.count(2), 0);
        TowThatJerks all = Checks.towOf("a+100;");
        C.due("yaws(3)", all.yaws(3), 112);
        C.due("its swing", all.yaw(1), 60);
    }

    private static void towardNothing() {
        TowThatJerks x = Checks.towOf("a-105;y312;v1;");
        dueYaw(x, -102, 36);
        dueYaw(x, -96, 65);
        // Driven 19 of 19.2, damped 10 of 10.8, turned -14 of -14.4.
        dueYaw(x, -88, 65 + 19 - 10 + 14);
    }

    private static void heldIn() {
        TowThatJerks x = Checks.towOf("a+999;y000;v9;");
        dueYaw(x, 999, 899);
        dueYaw(x, 999, 999);
        dueYaw(x, 999, 999);
        TowThatJerks below = Checks.towOf("a-999;y000;v9;");
        dueYaw(below, -999, -899);
        dueYaw(below, -999, -999);
    }

    private static void swings() {
        TowThatJerks x = Checks.towOf("a+100;");
        C.due("swings(0, 0)", x.swings(0, 0), 100);
        C.due("swings(0, 1)", x.swings(0, 1), 0);
        C.due("swings(3, 0)", x.swings(3, 0), 112);
        C.due("swings(3, 1)", x.swings(3, 1), 112);
        C.due("nothing stays", x.yaw(0), 100);
        C.due("nothing stays", x.yaw(1), 0);
        TowThatJerks less = Checks.towOf("a-100;v0;");
        C.due("one tenth", less.swings(1, 0), -99);
        C.due("without sign, behind each", less.swings(1, 1), 99);
        C.due("the greatest of four hundred", less.swings(400, 1), 99);
        int last = less.swings(400, 0);
        C.due("yaws(400)", less.yaws(400), last);
    }

    private static String tow(int angle, int pace, int point, int rudder, int drogue) {
        return "a" + (angle < 0 ? "-" : "+") + Math.abs(angle) + ";v" + pace + ";y" + point + rudder + drogue + ";";
    }

    /** Of 200 tenths the greatest is above that of the first 100 just if the later ones' is. */
    private static boolean growsBySwings(TowThatJerks x) {
        return x.swings(200, 1) > x.swings(100, 1);
    }

    private static void growing() {
        int growing = 0;
        for (int angle = -40; angle <= 40; angle += 3) {
            for (int pace = 0; pace <= 9; pace += 3) {
                for (int point = 0; point <= 9; point++) {
                    TowThatJerks x = Checks.towOf(tow(angle, pace, point, point % 2, 0));
                    int want = growsBySwings(x) ? 1 : 0;
                    C.due("grows() of " + tow(angle, pace, point, point % 2, 0), x.grows(), want);
                    growing += want;
                }
            }
        }
        C.due("some grow", growing > 0 ? 1 : 0, 1);
        C.due("one that is still does not", new TowThatJerks().grows(), 0);
        TowThatJerks slow = Checks.towOf("a+30;v3;y400;");
        C.due("slowly it grows", slow.grows(), 1);
        // These would not, if 101 tenths were held against 101, or 99 against 99.
        C.due("a hundred tenths, no more", Checks.towOf("a+38;v2;y200;").grows(), 1);
        C.due("a hundred tenths, no less", swung("a+301;v1;y000;").grows(), 0);
        C.due("nothing stays", slow.yaw(0), 30);
    }

    /** Swing is -999 ahead of the text. */
    private static TowThatJerks swung(String text) {
        TowThatJerks x = Checks.towOf("a-999;v9;y000;");
        x.yaws(5);
        C.due("swing", x.yaw(1), -999);
        Checks.read(x, text);
        return x;
    }

    private static void holding() {
        C.due("a drogue of 2", swung("a+236;v3;y300;").held(), 2);
        C.due("a drogue of 1", swung("a+106;v2;y300;").held(), 1);
        int above = 0;
        for (int angle = 20; angle <= 60; angle += 5) {
            for (int pace = 0; pace <= 9; pace++) {
                TowThatJerks x = Checks.towOf(tow(angle, pace, pace, 0, 3));
                int held = x.held();
                C.due("the drogue stays", x.set(6, 0), 3);
                int want = -4;
                for (int drogue = 9; drogue >= 0; drogue--) {
                    x.set(6, drogue);
                    want = growsBySwings(x) ? want : drogue;
                }
                C.due("held() of " + tow(angle, pace, pace, 0, 3), held, want);
                above += want > 0 ? 1 : 0;
            }
        }
        C.due("some need a drogue", above > 0 ? 1 : 0, 1);
    }

    private static void refusals() {
        TowThatJerks x = Checks.towOf("a+100;");
        int no = Checks.LOWER - 1;
        C.due("yaw(-1)", x.yaw(-1), no);
        C.due("yaw(2)", x.yaw(2), no);
        C.due("yaws(0)", x.yaws(0), no);
        C.due("yaws(-1)", x.yaws(-1), no);
        C.due("yaws(401)", x.yaws(401), no);
        C.due("swings(-1, 0)", x.swings(-1, 0), no);
        C.due("swings(401, 0)", x.swings(401, 0), no);
        C.due("swings(1, -1)", x.swings(1, -1), no);
        C.due("swings(1, 2)", x.swings(1, 2), no);
        C.due("nothing changed", x.yaw(0), 100);
        C.due("nothing changed", x.yaw(1), 0);
    }
}
