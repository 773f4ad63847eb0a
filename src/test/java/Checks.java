/** Counts the calls whose answer is not the one that is due, and writes texts and rows onto shelves. */
final class Checks {
    static final int LOWER = -1000000000;

    private final String name;
    private int checked = 0;
    private int wrong = 0;

    Checks(String name) {
        this.name = name;
    }

    void due(String call, long got, long want) {
        checked++;
        if (got != want) {
            wrong++;
            System.out.println(name + ": " + call + " answered " + got + ", due is " + want);
        }
    }

    void dueAll(String call, long[] got, long... want) {
        due(call + " (how many)", got.length, want.length);
        for (int i = 0; i < Math.min(got.length, want.length); i++) {
            due(call + " [" + i + "]", got[i], want[i]);
        }
    }

    /** 0 nothing is thrown, 1 an IllegalArgumentException, 2 an IllegalStateException. */
    void dueThrown(TowThatJerks x, int d, int i, int want) {
        int thrown = 0;
        try {
            x.element(d, i);
        } catch (IllegalArgumentException e) {
            thrown = 1;
        } catch (IllegalStateException e) {
            thrown = 2;
        }
        due("element(" + d + ", " + i + ") throws", thrown, want);
    }

    static void text(TowThatJerks x, int d, String text) {
        x.row(d, 0, text.length());
        for (int i = 0; i < text.length(); i++) {
            x.put(d, i, text.charAt(i));
        }
    }

    static void row(TowThatJerks x, int d, int sort, int... elements) {
        x.row(d, sort, elements.length);
        for (int i = 0; i < elements.length; i++) {
            x.put(d, i, elements[i]);
        }
    }

    /** A new object that has read a text; shelf 7 keeps it. */
    static TowThatJerks towOf(String text) {
        TowThatJerks x = new TowThatJerks();
        text(x, 7, text);
        if (x.tow(7) < 0) {
            throw new IllegalArgumentException("the test's own tow has a fault: " + text);
        }
        return x;
    }

    /** What tow answers to a text on an object. */
    static int read(TowThatJerks x, String text) {
        text(x, 7, text);
        return x.tow(7);
    }

    void end() {
        System.out.println(name + ": " + checked + " checked, " + wrong + " wrong");
        if (wrong != 0) {
            System.exit(1);
        }
    }
}
