/** Objects that the tests begin with. */
final class Cubes {
    static final int LEAST = Integer.MIN_VALUE, MOST = Integer.MAX_VALUE;

    private Cubes() {
    }

    static void tell(CubeClosures x, String text) {
        for (int i = 0; i < text.length(); i++) {
            x.write(text.charAt(i));
        }
    }

    /** A new object that has read a text; a text that is refused is a slip of the test, or of read(). */
    static CubeClosures told(String text) {
        CubeClosures x = new CubeClosures();
        tell(x, text);
        if (x.read() < 0) {
            throw new IllegalStateException("read() refuses '" + text + "'");
        }
        return x;
    }

    /** So many clauses, with ; between. */
    static String repeated(String clause, int times) {
        return (clause + ";").repeat(times - 1) + clause;
    }

    /** Four entries: 0 0, 0 1, 1 1, 0 0 with measures 5, -99, 7, 1. */
    static CubeClosures four() {
        CubeClosures x = new CubeClosures();
        x.add(8, 5);
        x.add(9, -99);
        x.add(16, 7);
        x.add(8, 1);
        return x;
    }

    /** One dimension of one value, and so many entries, all alike but for their measures 0, 1 .. */
    static CubeClosures alike(int many) {
        CubeClosures x = told("table 1");
        for (int i = 0; i < many; i++) {
            x.add(1, i);
        }
        return x;
    }

    /** A code by its figures, the first one first. */
    static int code(int... figures) {
        int code = 0;
        for (int figure : figures) {
            code = code * 7 + figure;
        }
        return code;
    }
}
