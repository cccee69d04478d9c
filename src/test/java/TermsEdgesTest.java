/** The terms of the document, sections 1 to 3: each sentence that names a bound has a test of its own. */
public final class TermsEdgesTest {
    private static final int NONE = -1, UNKNOWN = -2, OUTSIDE = -3, NOT = -4, FULL = -5;

    private final Due due = new Due();

    public static void main(String[] args) {
        TermsEdgesTest test = new TermsEdgesTest();
        test.dimensions();
        test.values();
        test.valuesOfEachDimension();
        test.entries();
        test.measures();
        test.supports();
        test.codeOfAll();
        test.codeThatIsNoCell();
        test.codeOfTheFirstDimension();
        test.cover();
        test.closedWithoutACover();
        test.closedWhereAllAreAlike();
        test.closedWithOneEntry();
        test.closureHasTheSameCover();
        test.cubeBySupport();
        test.cubeByCodesRising();
        test.partingOfNone();
        test.partingOfFewerThanSupport();
        test.partingBySupport();
        test.partingFromEachPlaceToTheLast();
        test.partingWithOneDimension();
        test.partingAtItsDearest();
        test.orders();
        test.ordersWithANoughtFirst();
        test.bestOfSeveral();
        test.moreChangesNothing();
        test.moreOfNone();
        test.moreBySupport();
        test.lessOfTheLast();
        test.lessBySupport();
        test.lessChangesNothing();
        test.capFromOne();
        test.capUpToFortyOne();
        test.capOfNone();
        test.capBetween();
        test.keyOfNoneAndOfOne();
        test.keyOfLikeOnes();
        test.keyOfTheFewest();
        test.keyOfAllDimensions();
        test.keyThatThereIsNot();
        test.ruleOfNoneAndOfOne();
        test.ruleOfTheEmptySet();
        test.ruleWithinTheSet();
        test.due.end();
    }

    private static CubeClosures told(String text) {
        return Cubes.told(text);
    }

    private void cubeIs(CubeClosures x, int... codes) {
        due.is("count(3)", x.count(3), codes.length);
        for (int k = 0; k < codes.length; k++) {
            due.is("kept(" + k + ")", x.kept(k), codes[k]);
        }
        due.is("kept(" + codes.length + ") behind the last", x.kept(codes.length), NONE);
    }

    // ---- 1 the table

    private void dimensions() {
        due.part("THE TABLE has DIMENSIONS 0 .. d less 1 (d 1 .. 4; 2 at first)");
        due.is("count(0) at first", new CubeClosures().count(0), 2);
        for (int d = 1; d <= 4; d++) {
            CubeClosures x = told("table" + " 3".repeat(d));
            due.is("count(0)", x.count(0), d);
            due.is("rule(0, " + (d - 1) + "), the last dimension", x.rule(0, d - 1), 1);
            due.is("rule(0, " + d + ")", x.rule(0, d), OUTSIDE);
            due.is("rule(0, -1)", x.rule(0, -1), OUTSIDE);
        }
        CubeClosures x = new CubeClosures();
        Cubes.tell(x, "table");
        due.is("fault() of no dimension", x.fault(), 5);
        due.is("read() of no dimension", x.read(), NOT);
        x.erase();
        Cubes.tell(x, "table 1 1 1 1 1");
        due.is("fault() of five dimensions", x.fault(), 14);
        due.is("read() of five dimensions", x.read(), NOT);
        due.is("count(0) stays", x.count(0), 2);
    }

    private void values() {
        due.part("each with VALUES 0 .. v less 1 (v 1 .. 6; 4 at first)");
        CubeClosures first = new CubeClosures();
        due.is("count(5) at first", first.count(5), 44);
        due.is("cell(4, 0)", first.cell(4, 0), 0);
        due.is("cell(5, 0)", first.cell(5, 0), OUTSIDE);
        due.is("cell(28, 0)", first.cell(28, 0), 0);
        due.is("cell(35, 0)", first.cell(35, 0), OUTSIDE);
        for (int v = 1; v <= 6; v++) {
            CubeClosures x = told("table " + v);
            due.is("count(5)", x.count(5), v);
            due.is("add(1, 0), the first value of " + v, x.add(1, 0), 1);
            due.is("add(" + v + ", 0), the last value of " + v, x.add(v, 0), 2);
            due.is("add(" + (v + 1) + ", 0), one more than " + v, x.add(v + 1, 0), OUTSIDE);
            due.is("cell(" + v + ", 0)", x.cell(v, 0), v == 1 ? 2 : 1);
            due.is("cell(" + (v + 1) + ", 0)", x.cell(v + 1, 0), OUTSIDE);
        }
        for (String wrong : new String[] {"table 0", "table 7"}) {
            CubeClosures x = new CubeClosures();
            Cubes.tell(x, wrong);
            due.is("fault() of '" + wrong + "'", x.fault(), 6);
            due.is("read() of '" + wrong + "'", x.read(), NOT);
            due.is("count(5) stays", x.count(5), 44);
        }
    }

    private void valuesOfEachDimension() {
        due.part("each with VALUES 0 .. v less 1, in each dimension");
        int[] sizes = {1, 6, 3, 2};
        CubeClosures x = told("table 1 6 3 2");
        for (int dimension = 0; dimension < 4; dimension++) {
            int[] figures = {1, 1, 1, 1};
            figures[dimension] = sizes[dimension];
            int last = Cubes.code(figures);
            due.is("add(" + last + ", 0), the last value of " + dimension, x.add(last, 0), dimension + 1);
            if (sizes[dimension] < 6) {
                figures[dimension]++;
                int more = Cubes.code(figures);
                due.is("add(" + more + ", 0), no value of " + dimension, x.add(more, 0), OUTSIDE);
                due.is("cell(" + more + ", 0)", x.cell(more, 0), OUTSIDE);
                due.is("closure(" + more + ")", x.closure(more), OUTSIDE);
                due.is("ask(" + more + ", 0)", x.ask(more, 0), OUTSIDE);
                due.is("more(" + more + ", 0)", x.more(more, 0), OUTSIDE);
            }
        }
    }

    private void entries() {
        due.part("ENTRIES 0, 1 .., 40 at most (none at first)");
        CubeClosures x = new CubeClosures();
        due.is("count(1) at first", x.count(1), 0);
        due.is("entry(0, 0) at first", x.entry(0, 0), UNKNOWN);
        for (int n = 1; n <= 40; n++) {
            due.is("add(8, " + n + ")", x.add(8, n), n);
            due.is("entry(" + (n - 1) + ", 1)", x.entry(n - 1, 1), 1000 + n);
            due.is("entry(" + n + ", 1)", x.entry(n, 1), UNKNOWN);
        }
        due.is("add(8, 41)", x.add(8, 41), FULL);
        due.is("count(1)", x.count(1), 40);
        due.is("entry(39, 1)", x.entry(39, 1), 1040);
        due.is("remove(39)", x.remove(39), 39);
        due.is("add(8, 41) when one is gone", x.add(8, 41), 40);
        due.is("entry(39, 1)", x.entry(39, 1), 1041);
    }

    private void measures() {
        due.part("a MEASURE (-99 .. 99)");
        CubeClosures x = new CubeClosures();
        due.is("add(8, -100)", x.add(8, -100), OUTSIDE);
        due.is("add(8, 100)", x.add(8, 100), OUTSIDE);
        due.is("add(8, least)", x.add(8, Cubes.LEAST), OUTSIDE);
        due.is("add(8, most)", x.add(8, Cubes.MOST), OUTSIDE);
        int[] measures = {-99, -98, -1, 0, 1, 98, 99};
        for (int i = 0; i < measures.length; i++) {
            due.is("add(8, " + measures[i] + ")", x.add(8, measures[i]), i + 1);
            due.is("entry(" + i + ", 1)", x.entry(i, 1), 1000 + measures[i]);
        }
    }

    private void supports() {
        due.part("SUPPORT is 1 .. 9 (1 at first)");
        CubeClosures x = new CubeClosures();
        due.is("count(2) at first", x.count(2), 1);
        for (int s = 2; s <= 9; s++) {
            due.is("support(" + s + ")", x.support(s), s - 1);
            due.is("count(2)", x.count(2), s);
        }
        due.is("support(10)", x.support(10), OUTSIDE);
        due.is("support(0)", x.support(0), OUTSIDE);
        due.is("support(-1)", x.support(-1), OUTSIDE);
        due.is("count(2) stays", x.count(2), 9);
        due.is("support(1)", x.support(1), 9);
    }

    private void codeOfAll() {
        due.part("Its CODE has a figure for each DIMENSION: 0 for ALL, else the VALUE and 1");
        for (int d = 1; d <= 4; d++) {
            CubeClosures x = told("table" + " 6".repeat(d) + ";row" + " 0".repeat(d) + " 7;row" + " 5".repeat(d) + " 8");
            int greatest = (int) Math.pow(7, d) - 1;
            due.is("cell(0, 0), all in " + d, x.cell(0, 0), 2);
            due.is("cell(" + greatest / 6 + ", 1), value 0 in " + d, x.cell(greatest / 6, 1), 10007);
            due.is("cell(" + greatest + ", 1), value 5 in " + d, x.cell(greatest, 1), 10008);
            due.is("cell(" + (greatest + 1) + ", 0)", x.cell(greatest + 1, 0), OUTSIDE);
        }
    }

    private void codeThatIsNoCell() {
        due.part("a CODE that is no CELL's");
        int[] wrong = {5, 6, 12, 13, 33, 34, 35, 42, 48, 49, 50, 56, 57, 343, 2401, -1, -7, -8, -49, -2401,
            Cubes.MOST, Cubes.MOST - 1, Cubes.LEAST, Cubes.LEAST + 1};
        CubeClosures x = Cubes.four();
        x.row(0, 1);
        for (int code : wrong) {
            due.is("add(" + code + ", 0)", x.add(code, 0), OUTSIDE);
            due.is("cell(" + code + ", 0)", x.cell(code, 0), OUTSIDE);
            due.is("closure(" + code + ")", x.closure(code), OUTSIDE);
            due.is("ask(" + code + ", 0)", x.ask(code, 0), OUTSIDE);
            due.is("more(" + code + ", 0)", x.more(code, 0), OUTSIDE);
            due.is("load(0, 0, " + code + ")", x.load(0, 0, code), OUTSIDE);
        }
        due.is("count(1) stays", x.count(1), 4);
    }

    private void codeOfTheFirstDimension() {
        due.part("the first one first, each seven times as much as the next");
        CubeClosures x = told("table 2 3 4 5;row 1 2 3 4 9");
        int code = 2 * 343 + 3 * 49 + 4 * 7 + 5;
        due.is("entry(0, 0)", x.entry(0, 0), code);
        int[] parts = {2 * 343, 3 * 49, 4 * 7, 5};
        for (int part : parts) {
            due.is("cell(" + part + ", 1)", x.cell(part, 1), 10009);
        }
        due.is("cell(343, 0)", x.cell(343, 0), 0);
        due.is("cell(4, 0)", x.cell(4, 0), 0);
    }

    private void cover() {
        due.part("The COVER of a CELL: ENTRIES that have its VALUES, where it has one");
        CubeClosures x = new CubeClosures();
        due.is("cell(0, 0) of none", x.cell(0, 0), 0);
        due.is("cell(0, 1) of none", x.cell(0, 1), 10000);
        due.is("cell(0, 2) of none", x.cell(0, 2), NONE);
        due.is("cell(0, 3) of none", x.cell(0, 3), NONE);
        x.add(8, 0);
        due.is("cell(0, 2) of a nought", x.cell(0, 2), 10000);
        due.is("cell(0, 3) of a nought", x.cell(0, 3), 10000);
        due.is("cell(1, 0)", x.cell(1, 0), 1);
        due.is("cell(9, 0), one value of two", x.cell(9, 0), 0);
        due.is("cell(9, 2)", x.cell(9, 2), NONE);
        due.is("cell(15, 3)", x.cell(15, 3), NONE);
        CubeClosures full = Cubes.alike(40);
        due.is("cell(0, 0) of forty", full.cell(0, 0), 40);
        due.is("cell(1, 0) of forty", full.cell(1, 0), 40);
        due.is("cell(1, 3) of forty", full.cell(1, 3), 10039);
    }

    private void closedWithoutACover() {
        due.part("CLOSED is a CELL with a COVER that is not empty");
        CubeClosures x = new CubeClosures();
        cubeIs(x);
        due.is("closure(0) of none", x.closure(0), NONE);
        due.is("closure(8) of none", x.closure(8), NONE);
        x.add(8, 1);
        due.is("closure(16) without a cover", x.closure(16), NONE);
        due.is("closure(2) without a cover", x.closure(2), NONE);
        x.remove(0);
        cubeIs(x);
        due.is("closure(8) of none any more", x.closure(8), NONE);
    }

    private void closedWhereAllAreAlike() {
        due.part("if in no DIMENSION where it has ALL the ENTRIES of its COVER all have the same VALUE");
        cubeIs(told("row 0 0 1;row 1 1 1"), 0, 8, 16);
        cubeIs(told("row 0 0 1;row 0 1 1"), 7, 8, 9);
        cubeIs(told("row 0 0 1;row 1 0 1"), 1, 8, 15);
        cubeIs(told("row 3 3 1;row 3 3 2"), 32);
        cubeIs(told("table 1 2;row 0 0 1;row 0 1 1"), 7, 8, 9);
        cubeIs(told("table 1 1 1 1;row 0 0 0 0 1"), 400);
        cubeIs(told("table 2 2 2 2;row 0 0 0 0 1;row 1 1 1 1 1"), 0, 400, 800);
    }

    private void closedWithOneEntry() {
        due.part("CLOSED, of one entry: with its own values alone");
        CubeClosures x = told("table 6 6 6 6;row 5 4 3 2 1");
        int code = Cubes.code(6, 5, 4, 3);
        cubeIs(x, code);
        for (int set = 0; set < 16; set++) {
            int cell = Cubes.code((set & 1) * 6, (set >> 1 & 1) * 5, (set >> 2 & 1) * 4, (set >> 3 & 1) * 3);
            due.is("closure(" + cell + ")", x.closure(cell), code);
        }
        due.is("count(4)", x.count(4), 16);
    }

    private void closureHasTheSameCover() {
        due.part("The CLOSURE of a CELL is the CLOSED one with the same COVER");
        CubeClosures x = Cubes.four();
        for (int code = 0; code <= 32; code++) {
            if (code % 7 > 4) {
                continue;
            }
            int closure = x.closure(code);
            if (x.cell(code, 0) == 0) {
                due.is("closure(" + code + ")", closure, NONE);
                continue;
            }
            due.is("closure of the closure of " + code, x.closure(closure), closure);
            for (int what = 0; what < 4; what++) {
                due.is("cell(closure of " + code + ", " + what + ")", x.cell(closure, what), x.cell(code, what));
            }
        }
    }

    private void cubeBySupport() {
        due.part("THE CUBE: all CLOSED CELLS whose COUNT is SUPPORT or more");
        CubeClosures x = Cubes.alike(9);
        for (int s = 2; s <= 9; s++) {
            x.support(s);
            cubeIs(x, 1);
        }
        x.remove(0);
        cubeIs(x);
        due.is("count(4) by one too few", x.count(4), 0);
        due.is("ask(1, 0) by one too few", x.ask(1, 0), NONE);
        x.support(8);
        cubeIs(x, 1);
        due.is("ask(0, 0) by just enough", x.ask(0, 0), 8);
    }

    private void cubeByCodesRising() {
        due.part("THE CUBE, by CODES, rising");
        cubeIs(told("row 3 3 1;row 0 0 1;row 0 3 1"), 0, 4, 7, 8, 11, 32);
        CubeClosures x = told("table 6 6 6 6");
        for (int i = 39; i >= 0; i--) {
            x.add(Cubes.code(1 + i * 5 % 6, 1 + i * 7 % 6, 1 + i / 7, 1 + i / 3 % 6), 0);
        }
        int size = x.count(3);
        due.holds("a cube of many cells: " + size, size > 40);
        for (int k = 1; k < size; k++) {
            due.holds("kept(" + k + ") is more than the one before", x.kept(k) > x.kept(k - 1));
        }
        due.is("kept(" + size + ")", x.kept(size), NONE);
    }

    // ---- 2 parting

    private void partingOfNone() {
        due.part("WORK and VISITS are nought at first");
        for (String table : new String[] {"table 4", "table 4 4", "table 4 4 4", "table 4 4 4 4"}) {
            CubeClosures x = told(table);
            int[] first = {0, 1, 12, 123};
            int order = first[x.count(0) - 1];
            due.is("part(" + order + ", 0) of none", x.part(order, 0), 0);
            due.is("part(" + order + ", 1) of none", x.part(order, 1), 0);
            due.is("best(0) of none", x.best(0), order);
            due.is("best(1) of none", x.best(1), 0);
        }
    }

    private void partingOfFewerThanSupport() {
        due.part("from all ENTRIES, at place 0 (they may be fewer than SUPPORT)");
        CubeClosures x = Cubes.four();
        x.support(5);
        due.is("part(1, 0)", x.part(1, 0), 4 + 4);
        due.is("part(1, 1)", x.part(1, 1), 0);
        CubeClosures line = Cubes.alike(1);
        line.support(2);
        due.is("part(0, 0) of one", line.part(0, 0), 1);
        due.is("part(0, 1) of one", line.part(0, 1), 0);
    }

    private void partingBySupport() {
        due.part("for each VALUE of the DIMENSION at q that SUPPORT or more of them have");
        CubeClosures x = told("row 0 0 1;row 0 1 1");
        x.support(2);
        due.is("part(1, 0) by just enough", x.part(1, 0), 2 + 2 + 2);
        due.is("part(10, 0) by just enough", x.part(10, 0), 2 + 2);
        due.is("part(1, 1) by just enough", x.part(1, 1), 1);
        due.is("part(10, 1) by just enough", x.part(10, 1), 1);
        x.support(3);
        due.is("part(1, 0) by one too few", x.part(1, 0), 2 + 2);
        due.is("part(10, 0) by one too few", x.part(10, 0), 2 + 2);
        due.is("part(1, 1) by one too few", x.part(1, 1), 0);
    }

    private void partingFromEachPlaceToTheLast() {
        due.part("for each place q from p to the last");
        CubeClosures x = told("table 2 2 2;row 0 0 0 1;row 1 1 1 1");
        // Each of the two is one alone below the first place: 1 and 1 behind it, and 1 behind that.
        due.is("part(12, 0)", x.part(12, 0), 2 + 2 * (1 + 1 + 1) + 2 + 2 * 1 + 2);
        due.is("part(12, 1)", x.part(12, 1), 2 * 7);
        x.support(2);
        due.is("part(12, 0) gone into nowhere", x.part(12, 0), 2 + 2 + 2);
        due.is("part(12, 1) gone into nowhere", x.part(12, 1), 0);
    }

    private void partingWithOneDimension() {
        due.part("those are gone on with at place q and 1 (there is none behind the last)");
        CubeClosures x = told("table 3;row 0 1;row 0 1;row 2 1");
        int[] visits = {2, 1, 0};
        for (int s = 1; s <= 3; s++) {
            x.support(s);
            due.is("part(0, 0) by " + s, x.part(0, 0), 3);
            due.is("part(0, 1) by " + s, x.part(0, 1), visits[s - 1]);
            due.is("best(1) by " + s, x.best(1), 3);
        }
    }

    private void partingAtItsDearest() {
        due.part("WORK is as many more as these ENTRIES are, of forty in four dimensions");
        CubeClosures x = told("table 6 6 6 6");
        for (int i = 0; i < 40; i++) {
            x.add(2400, 0);
        }
        for (int s = 9; s >= 1; s -= 8) {
            x.support(s);
            due.is("part(123, 0)", x.part(123, 0), 40 * 15);
            due.is("part(3210, 1)", x.part(3210, 1), 15);
            due.is("best(0)", x.best(0), 123);
            due.is("best(1)", x.best(1), 40 * 15);
        }
    }

    private void orders() {
        due.part("An ORDER is told by a number: its DIMENSIONS as figures, of all DIMENSIONS");
        int[] most = {10, 100, 1000, 10000};
        int[] many = {1, 2, 6, 24};
        for (int d = 1; d <= 4; d++) {
            CubeClosures x = told("table" + " 2".repeat(d));
            int orders = 0;
            for (int number = 0; number < most[d - 1] && number <= 321 + 1; number++) {
                orders += x.part(number, 0) == 0 ? 1 : 0;
            }
            due.is("orders of " + d + " up to 322", orders, Math.min(many[d - 1], 6));
            due.is("part(" + most[d - 1] + ", 0)", x.part(most[d - 1], 0), OUTSIDE);
            due.is("part(-1, 0)", x.part(-1, 0), OUTSIDE);
            due.is("part(-10, 0)", x.part(-10, 0), OUTSIDE);
            due.is("part(most, 0)", x.part(Cubes.MOST, 0), OUTSIDE);
            due.is("part(least, 0)", x.part(Cubes.LEAST, 0), OUTSIDE);
        }
        CubeClosures x = told("table 2 2 2 2");
        int[] wrong = {1233, 2210, 3200, 3211, 3220, 3214, 4210, 4321, 10123, 13210, 32100, 32104, 43210};
        for (int number : wrong) {
            due.is("part(" + number + ", 0)", x.part(number, 0), OUTSIDE);
        }
        int[] right = {1023, 1032, 1203, 1230, 1302, 1320, 2013, 2031, 2103, 2130, 2301, 2310,
            3012, 3021, 3102, 3120, 3201, 3210};
        for (int number : right) {
            due.is("part(" + number + ", 0)", x.part(number, 0), 0);
        }
    }

    private void ordersWithANoughtFirst() {
        due.part("the first one first, each ten times as much as the next (0 first is not seen)");
        CubeClosures x = told("table 2 2 2");
        due.is("part(12, 0)", x.part(12, 0), 0);
        due.is("part(21, 0)", x.part(21, 0), 0);
        due.is("part(120, 0)", x.part(120, 0), 0);
        due.is("part(0, 0)", x.part(0, 0), OUTSIDE);
        due.is("part(1, 0)", x.part(1, 0), OUTSIDE);
        due.is("part(10, 0)", x.part(10, 0), OUTSIDE);
        due.is("part(11, 0)", x.part(11, 0), OUTSIDE);
        due.is("part(20, 0)", x.part(20, 0), OUTSIDE);
        due.is("part(123, 0)", x.part(123, 0), OUTSIDE);
        CubeClosures lopsided = told("table 3 1 1;support 2;row 0 0 0 1;row 1 0 0 1;row 2 0 0 1");
        // Dimension 0 parts all: nothing is gone into by it. The other two part nothing.
        due.is("part(12, 0)", lopsided.part(12, 0), 3 + (3 + 3) + 3);
        due.is("part(120, 0)", lopsided.part(120, 0), 3 + (3 + 3 + 3) + 3 + 3 + 3);
    }

    private void bestOfSeveral() {
        due.part("BEST: the ORDER of least WORK, of several the least number");
        CubeClosures x = told("row 0 0 1;row 1 1 1");
        due.is("part(1, 0)", x.part(1, 0), 6);
        due.is("part(10, 0)", x.part(10, 0), 6);
        due.is("best(0) of like ones", x.best(0), 1);
        CubeClosures two = told("table 1 3 3;support 2;row 0 0 0 1;row 0 1 1 1;row 0 2 2 1");
        due.is("part(120, 0)", two.part(120, 0), 9);
        due.is("part(210, 0)", two.part(210, 0), 9);
        due.is("best(0) of two", two.best(0), 120);
        due.is("best(1) of two", two.best(1), 9);
    }

    // ---- 3 foretold

    private void moreChangesNothing() {
        due.part("FORETOLD (nothing changes): MORE");
        CubeClosures x = Cubes.four();
        due.is("more(15, 0)", x.more(15, 0), 9);
        due.is("count(1)", x.count(1), 4);
        due.is("count(7)", x.count(7), 4);
        due.is("cell(15, 0)", x.cell(15, 0), 0);
        cubeIs(x, 0, 2, 7, 8, 9, 16);
        due.is("more(15, 0) again", x.more(15, 0), 9);
    }

    private void moreOfNone() {
        due.part("MORE of a CODE: were an ENTRY with these VALUES there, too (there is none else)");
        CubeClosures x = told("table 6 6 6 6");
        due.is("more(2400, 0)", x.more(2400, 0), 1);
        due.is("more(2400, 1)", x.more(2400, 1), 1);
        x.support(2);
        due.is("more(2400, 0) by one too few", x.more(2400, 0), 0);
        due.is("more(2400, 1) by one too few", x.more(2400, 1), 0);
    }

    private void moreBySupport() {
        due.part("MORE: how many CELLS THE CUBE has then; how many of these it has not now");
        CubeClosures x = Cubes.alike(7);
        x.support(9);
        due.is("more(1, 0) by two too few", x.more(1, 0), 0);
        x.add(1, 0);
        due.is("more(1, 0) by one too few", x.more(1, 0), 1);
        due.is("more(1, 1) by one too few", x.more(1, 1), 1);
        x.add(1, 0);
        due.is("more(1, 0) by enough", x.more(1, 0), 1);
        due.is("more(1, 1) by enough", x.more(1, 1), 0);
        CubeClosures last = Cubes.alike(39);
        due.is("more(1, 0) of the fortieth", last.more(1, 0), 1);
        due.is("more(1, 1) of the fortieth", last.more(1, 1), 0);
    }

    private void lessOfTheLast() {
        due.part("LESS of an ENTRY: were it not there (there is none else)");
        CubeClosures x = told("table 6 6 6 6;row 5 5 5 5 1");
        due.is("less(0, 0)", x.less(0, 0), 0);
        due.is("less(0, 1)", x.less(0, 1), 1);
        x.support(2);
        due.is("less(0, 0) that was not kept", x.less(0, 0), 0);
        due.is("less(0, 1) that was not kept", x.less(0, 1), 0);
    }

    private void lessBySupport() {
        due.part("LESS: how many THE CUBE has then; how many it has now and not then");
        CubeClosures x = Cubes.alike(10);
        x.support(9);
        due.is("less(9, 0) by more than enough", x.less(9, 0), 1);
        due.is("less(9, 1) by more than enough", x.less(9, 1), 0);
        x.remove(0);
        due.is("less(8, 0) by just enough", x.less(8, 0), 0);
        due.is("less(8, 1) by just enough", x.less(8, 1), 1);
        CubeClosures full = Cubes.alike(40);
        due.is("less(39, 0) of forty", full.less(39, 0), 1);
        due.is("less(39, 1) of forty", full.less(39, 1), 0);
    }

    private void lessChangesNothing() {
        due.part("FORETOLD (nothing changes): LESS");
        CubeClosures x = Cubes.four();
        due.is("less(1, 0)", x.less(1, 0), 3);
        due.is("count(1)", x.count(1), 4);
        due.is("count(7)", x.count(7), 4);
        due.is("entry(1, 0)", x.entry(1, 0), 9);
        cubeIs(x, 0, 2, 7, 8, 9, 16);
        due.is("less(1, 0) again", x.less(1, 0), 3);
    }

    private void capFromOne() {
        due.part("CAP for k (0 .. 2400): the least SUPPORT (1 .. 41): 1");
        CubeClosures x = Cubes.four();
        due.is("cap(5), one fewer than there are", x.cap(5), 2);
        due.is("cap(6), as many as there are", x.cap(6), 1);
        due.is("cap(7)", x.cap(7), 1);
        due.is("cap(2400)", x.cap(2400), 1);
        due.is("cap(2401)", x.cap(2401), OUTSIDE);
        due.is("cap(-1)", x.cap(-1), OUTSIDE);
        due.is("cap(most)", x.cap(Cubes.MOST), OUTSIDE);
        due.is("cap(least)", x.cap(Cubes.LEAST), OUTSIDE);
    }

    private void capUpToFortyOne() {
        due.part("CAP for k (0 .. 2400): the least SUPPORT (1 .. 41): 41");
        CubeClosures x = Cubes.alike(0);
        for (int n = 0; n <= 40; n++) {
            due.is("cap(0) of " + n, x.cap(0), n + 1);
            due.is("cap(1) of " + n, x.cap(1), 1);
            x.add(1, 0);
        }
        CubeClosures two = told("table 2");
        for (int i = 0; i < 40; i++) {
            two.add(i < 20 ? 1 : 2, 0);
        }
        due.is("cap(0)", two.cap(0), 41);
        due.is("cap(1), all of them", two.cap(1), 21);
        due.is("cap(2)", two.cap(2), 21);
        due.is("cap(3)", two.cap(3), 1);
    }

    private void capOfNone() {
        due.part("CAP: by which THE CUBE has k CELLS or fewer (it has none)");
        due.is("cap(0) of none", new CubeClosures().cap(0), 1);
        due.is("cap(2400) of none", new CubeClosures().cap(2400), 1);
    }

    private void capBetween() {
        due.part("CAP, whatever SUPPORT is now, and beyond 9");
        CubeClosures x = Cubes.alike(12);
        due.is("cap(0)", x.cap(0), 13);
        x.support(9);
        due.is("cap(0) by support 9", x.cap(0), 13);
        due.is("cap(1) by support 9", x.cap(1), 1);
        due.is("count(2) stays", x.count(2), 9);
    }

    private void keyOfNoneAndOfOne() {
        due.part("KEY: a set of DIMENSIONS (bits) such that no two ENTRIES have the same VALUES in all of them");
        due.is("key() of none", new CubeClosures().key(), 0);
        due.is("key() of one", told("row 3 3 1").key(), 0);
        due.is("key() of two", told("row 3 3 1;row 3 2 1").key(), 2);
    }

    private void keyOfLikeOnes() {
        due.part("KEY, of like ones the least number");
        due.is("key() by any one", told("table 2 2 2 2;row 0 0 0 0 1;row 1 1 1 1 1").key(), 1);
        due.is("key() by any but the first", told("table 2 2 2 2;row 0 0 0 0 1;row 0 1 1 1 1").key(), 2);
        due.is("key() by the last", told("table 2 2 2 2;row 0 0 0 0 1;row 0 0 0 1 1").key(), 8);
        String two = "table 1 2 2 2;row 0 0 0 0 1;row 0 0 1 1 1;row 0 1 0 1 1";
        due.is("key() by two of the last three", told(two).key(), 6);
    }

    private void keyOfTheFewest() {
        due.part("KEY, of the fewest");
        String three = "table 2 2 1 4;row 0 0 0 0 1;row 0 1 0 1 1;row 1 0 0 2 1;row 1 1 0 3 1";
        due.is("key() by 8 rather than by 3", told(three).key(), 8);
    }

    private void keyOfAllDimensions() {
        due.part("KEY, by all DIMENSIONS");
        CubeClosures x = told("table 2 2 2 2;row 0 0 0 0 1;row 1 0 0 0 1;row 0 1 0 0 1;row 0 0 1 0 1;row 0 0 0 1 1");
        due.is("key()", x.key(), 15);
        due.is("key() of one dimension", told("table 6;row 0 1;row 5 1").key(), 1);
    }

    private void keyThatThereIsNot() {
        due.part("KEY: none (two ENTRIES are alike in all)");
        due.is("key() of two alike", told("row 3 3 1;row 3 3 2").key(), NONE);
        CubeClosures x = told("table 6 6 6 6");
        for (int i = 0; i < 36; i++) {
            x.add(Cubes.code(1 + i / 6, 1 + i % 6, 6, 6), 0);
        }
        due.is("key() of thirty-six", x.key(), 3);
        x.add(2400, 5);
        due.is("key() with the last one twice", x.key(), NONE);
        x.remove(0);
        due.is("key() without the first", x.key(), NONE);
        x.remove(35);
        due.is("key() without the last", x.key(), 3);
    }

    private void ruleOfNoneAndOfOne() {
        due.part("RULE of a set and a DIMENSION: whether any two ENTRIES (there are not two)");
        CubeClosures x = new CubeClosures();
        for (int set = 0; set < 4; set++) {
            due.is("rule(" + set + ", 1) of none", x.rule(set, 1), 1);
        }
        x.add(8, 1);
        for (int set = 0; set < 4; set++) {
            due.is("rule(" + set + ", 0) of one", x.rule(set, 0), 1);
        }
    }

    private void ruleOfTheEmptySet() {
        due.part("RULE: that have the same VALUES in the set (in the empty one all have)");
        CubeClosures x = told("row 0 0 1;row 0 1 1");
        due.is("rule(0, 0)", x.rule(0, 0), 1);
        due.is("rule(0, 1)", x.rule(0, 1), 0);
        due.is("rule(1, 1)", x.rule(1, 1), 0);
        due.is("rule(2, 0)", x.rule(2, 0), 1);
    }

    private void ruleWithinTheSet() {
        due.part("RULE: have the same in that one, too (it is one of the set)");
        CubeClosures x = told("table 2 2 2 2;row 0 0 0 0 1;row 0 0 0 1 1;row 1 0 0 0 1;row 0 0 0 0 2");
        for (int dimension = 0; dimension < 4; dimension++) {
            due.is("rule(15, " + dimension + ")", x.rule(15, dimension), 1);
            due.is("rule(" + (1 << dimension) + ", " + dimension + ")", x.rule(1 << dimension, dimension), 1);
        }
        due.is("rule(7, 3)", x.rule(7, 3), 0);
        due.is("rule(14, 0)", x.rule(14, 0), 0);
        due.is("rule(13, 1)", x.rule(13, 1), 1);
    }
}
