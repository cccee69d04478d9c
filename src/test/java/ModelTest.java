import java.util.Random;

/** Long runs of mixed calls, each answer held against the plain model's. */
public final class ModelTest {
    /** What an object answers behind so many calls is free. */
    private static final int CALLS = 512;
    private static final int MOST_CALLS_OF_A_STEP = 2;
    private static final int[] ODD_NUMBERS = {
        -1, -2, -7, -10, -49, 0, 5, 6, 7, 9, 10, 12, 13, 24, 40, 41, 48, 49, 99, 100, 255, 256, 342, 343, 2400, 2401,
        3210, 3211, 98765, Integer.MAX_VALUE, Integer.MIN_VALUE, Integer.MIN_VALUE + 1};

    private final Due due;
    private final Random random;
    private final CubeClosures cube = new CubeClosures();
    private final PlainCube plain = new PlainCube();

    private ModelTest(Due due, int run) {
        this.due = due;
        random = new Random(run);
        due.part("run " + run);
    }

    public static void main(String[] args) {
        int runs = args.length > 0 ? Integer.parseInt(args[0]) : 200;
        Due due = new Due();
        for (int run = 0; run < runs; run++) {
            new ModelTest(due, run).go();
        }
        due.end();
    }

    private void go() {
        int ofThreeForTable = 1 + random.nextInt(2);
        int left = CALLS - tellText(TextMaker.make(random, "44"), CALLS);
        left -= addSome(Math.min(random.nextInt(45), left));
        while (left >= MOST_CALLS_OF_A_STEP) {
            if (random.nextInt(120) == 0) {
                left -= tellText(TextMaker.make(random, String.valueOf(plain.count(5))), left - MOST_CALLS_OF_A_STEP);
            }
            if (random.nextInt(3) < ofThreeForTable) {
                left -= callOfTable();
            } else {
                left -= random.nextInt(3) == 0 ? callOfRows() : callOfCells();
            }
        }
    }

    /** Nothing is told if it needs more calls than there may be. */
    private int tellText(String text, int most) {
        if (text.length() + 3 > most) {
            return 0;
        }
        for (int i = 0; i < text.length(); i++) {
            int letter = text.charAt(i);
            due.is("write(" + letter + ")", cube.write(letter), plain.write(letter));
        }
        due.is("fault() of " + text, cube.fault(), plain.fault());
        due.is("read() of " + text, cube.read(), plain.read());
        if (random.nextInt(3) > 0) {
            due.is("erase()", cube.erase(), plain.erase());
        }
        return text.length() + 3;
    }

    private int addSome(int many) {
        for (int i = 0; i < many; i++) {
            int code = code(true);
            due.is("add(" + code + ", " + i + ")", cube.add(code, i), plain.add(code, i));
        }
        return many;
    }

    private int odd() {
        return ODD_NUMBERS[random.nextInt(ODD_NUMBERS.length)];
    }

    /** Mostly below the bound, now and then anything. */
    private int upTo(int bound) {
        return random.nextInt(20) == 0 ? odd() : random.nextInt(bound);
    }

    /** Mostly a code of the table as it is. */
    private int code(boolean isWhole) {
        if (random.nextInt(25) == 0) {
            return odd();
        }
        int entries = plain.count(1);
        if (entries > 0 && isWhole && random.nextInt(4) == 0) {
            return plain.entry(random.nextInt(entries), 0);
        }
        int code = 0;
        for (char size : String.valueOf(plain.count(5)).toCharArray()) {
            int values = size - '0';
            // Values low down come more often, so that cells have entries to share.
            int value = Math.min(random.nextInt(values), random.nextInt(values));
            code = code * 7 + (isWhole || random.nextBoolean() ? value + 1 : 0);
        }
        return code;
    }

    private int entry() {
        return random.nextInt(20) == 0 ? odd() : random.nextInt(Math.max(1, plain.count(1)));
    }

    private int measure() {
        return random.nextInt(20) == 0 ? odd() : random.nextInt(199) - 99;
    }

    private int callOfTable() {
        int which = random.nextInt(20);
        if (which < 11) {
            int code = code(true);
            int measure = measure();
            due.is("add(" + code + ", " + measure + ")", cube.add(code, measure), plain.add(code, measure));
        } else if (which < 14) {
            int entry = entry();
            due.is("remove(" + entry + ")", cube.remove(entry), plain.remove(entry));
        } else if (which == 14) {
            int s = random.nextInt(3) > 0 ? 1 + random.nextInt(3) : upTo(10);
            due.is("support(" + s + ")", cube.support(s), plain.support(s));
        } else if (which < 17) {
            due.is("undo()", cube.undo(), plain.undo());
        } else if (which == 17) {
            int k = upTo(2);
            due.is("keep(" + k + ")", cube.keep(k), plain.keep(k));
        } else if (which == 18 && random.nextInt(3) == 0) {
            int k = upTo(2);
            due.is("back(" + k + ")", cube.back(k), plain.back(k));
        } else {
            int entry = entry();
            int what = upTo(2);
            due.is("entry(" + entry + ", " + what + ")", cube.entry(entry, what), plain.entry(entry, what));
        }
        return 1;
    }

    private int order() {
        if (random.nextInt(10) == 0) {
            return odd();
        }
        StringBuilder figures = new StringBuilder();
        for (int i = 0; i < plain.count(0); i++) {
            figures.insert(random.nextInt(figures.length() + 1), i);
        }
        return Integer.parseInt(figures.toString());
    }

    private int callOfCells() {
        int code = code(false);
        int whole = code(true);
        int entry = entry();
        int order = order();
        int what = upTo(2);
        switch (random.nextInt(11)) {
            case 0 -> {
                int four = upTo(4);
                due.is("cell(" + code + ", " + four + ")", cube.cell(code, four), plain.cell(code, four));
            }
            case 1 -> due.is("closure(" + code + ")", cube.closure(code), plain.closure(code));
            case 2 -> {
                int k = upTo(1 + 2 * plain.count(1));
                due.is("kept(" + k + ")", cube.kept(k), plain.kept(k));
            }
            case 3 -> due.is("ask(" + code + ", " + what + ")", cube.ask(code, what), plain.ask(code, what));
            case 4 -> due.is("part(" + order + ", " + what + ")", cube.part(order, what), plain.part(order, what));
            case 5 -> due.is("best(" + what + ")", cube.best(what), plain.best(what));
            case 6 -> {
                int any = random.nextInt(8) == 0 ? code : whole;
                due.is("more(" + any + ", " + what + ")", cube.more(any, what), plain.more(any, what));
            }
            case 7 -> due.is("less(" + entry + ", " + what + ")", cube.less(entry, what), plain.less(entry, what));
            case 8 -> {
                int k = random.nextInt(10) == 0 ? odd() : random.nextInt(1 + random.nextInt(60));
                due.is("cap(" + k + ")", cube.cap(k), plain.cap(k));
            }
            case 9 -> {
                int set = upTo(1 << plain.count(0));
                int dimension = upTo(plain.count(0));
                due.is("key()", cube.key(), plain.key());
                due.is("rule(" + set + ", " + dimension + ")", cube.rule(set, dimension), plain.rule(set, dimension));
            }
            default -> {
                int nine = upTo(9);
                due.is("count(" + nine + ")", cube.count(nine), plain.count(nine));
            }
        }
        return 2;
    }

    private int callOfRows() {
        int row = upTo(3);
        int i = random.nextInt(3) > 0 ? random.nextInt(3) : upTo(13);
        int v = random.nextBoolean() ? odd() : random.nextInt();
        switch (random.nextInt(10)) {
            case 0 -> {
                int n = random.nextInt(3) > 0 ? 1 + random.nextInt(4) : upTo(13);
                due.is("row(" + row + ", " + n + ")", cube.row(row, n), plain.row(row, n));
            }
            case 1, 2 -> due.is("set(" + row + ", " + i + ", " + v + ")", cube.set(row, i, v), plain.set(row, i, v));
            case 3, 4, 5 -> {
                int way = random.nextInt(2) > 0 ? 2 : upTo(3);
                due.is("work(" + row + ", " + i + ", " + way + ", " + v + ")",
                        cube.work(row, i, way, v), plain.work(row, i, way, v));
            }
            case 6 -> due.is("bits(" + row + ", " + i + ")", cube.bits(row, i), plain.bits(row, i));
            case 7 -> due.is("sum(" + row + ")", cube.sum(row), plain.sum(row));
            case 8 -> {
                int code = code(false);
                due.is("load(" + row + ", " + i + ", " + code + ")", cube.load(row, i, code), plain.load(row, i, code));
            }
            default -> {
                if (random.nextInt(4) == 0) {
                    due.is("drop(" + row + ")", cube.drop(row), plain.drop(row));
                }
            }
        }
        due.is("asked()", cube.asked(), plain.asked());
        return 2;
    }
}
