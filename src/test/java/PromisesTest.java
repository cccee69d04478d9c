/** Each promise by hand: ordinary inputs, the edges that the document names, wrong inputs. */
public final class PromisesTest {
    private static final int NONE = -1, UNKNOWN = -2, OUTSIDE = -3, NOT = -4, FULL = -5,
            NULL = -11, INDEX = -12, SIZE = -13, OVER = -14;
    private static final int LEAST = Cubes.LEAST, MOST = Cubes.MOST;

    private final Due due = new Due();

    public static void main(String[] args) {
        PromisesTest test = new PromisesTest();
        test.aNewObject();
        test.writeAndErase();
        test.faultsOfTokens();
        test.faultsOfClauses();
        test.faultsOfTooMany();
        test.faultsWhereMoreStoodBefore();
        test.textsThatStand();
        test.read();
        test.readThatIsRefused();
        test.add();
        test.remove();
        test.removeOfForty();
        test.support();
        test.undo();
        test.keepAndBack();
        test.entry();
        test.cell();
        test.closure();
        test.kept();
        test.ask();
        test.part();
        test.best();
        test.more();
        test.less();
        test.cap();
        test.key();
        test.rule();
        test.row();
        test.set();
        test.work();
        test.workThatIsOver();
        test.bits();
        test.sum();
        test.load();
        test.drop();
        test.asked();
        test.count();
        test.due.end();
    }

    // ---- helpers

    private static CubeClosures told(String text) {
        return Cubes.told(text);
    }

    private static void tell(CubeClosures x, String text) {
        Cubes.tell(x, text);
    }

    private static String repeated(String clause, int times) {
        return Cubes.repeated(clause, times);
    }

    private static CubeClosures four() {
        return Cubes.four();
    }

    private void faultIs(String text, int place) {
        CubeClosures x = new CubeClosures();
        tell(x, text);
        due.is("fault() of '" + text + "'", x.fault(), place);
        due.is("fault() again of '" + text + "'", x.fault(), place);
    }

    private void stateIs(CubeClosures x, int... codes) {
        due.is("count(1)", x.count(1), codes.length);
        for (int i = 0; i < codes.length; i++) {
            due.is("entry(" + i + ", 0)", x.entry(i, 0), codes[i]);
        }
    }

    private void cubeIs(CubeClosures x, int... codes) {
        due.is("count(3)", x.count(3), codes.length);
        for (int i = 0; i < codes.length; i++) {
            due.is("kept(" + i + ")", x.kept(i), codes[i]);
        }
        due.is("kept behind the last", x.kept(codes.length), NONE);
    }

    // ---- promise 1

    private void aNewObject() {
        due.part("1 a new object");
        CubeClosures x = new CubeClosures();
        int[] counts = {2, 0, 1, 0, 0, 44, 0, 0, 0};
        for (int what = 0; what < counts.length; what++) {
            due.is("count(" + what + ")", x.count(what), counts[what]);
        }
        due.is("asked()", x.asked(), 0);
        due.is("undo()", x.undo(), NOT);
        due.is("back(0)", x.back(0), NOT);
        due.is("sum(0)", x.sum(0), NULL);
        due.is("kept(0)", x.kept(0), NONE);
        due.is("key()", x.key(), 0);
        CubeClosures other = new CubeClosures();
        x.add(8, 5);
        due.is("another's count(1)", other.count(1), 0);
    }

    // ---- promises 2 to 5

    private void writeAndErase() {
        due.part("2 write, 3 erase");
        CubeClosures x = new CubeClosures();
        due.is("erase() of none", x.erase(), 0);
        due.is("write(0)", x.write(0), 1);
        due.is("write(255)", x.write(255), 2);
        due.is("write(256)", x.write(256), OUTSIDE);
        due.is("write(-1)", x.write(-1), OUTSIDE);
        due.is("write(most)", x.write(MOST), OUTSIDE);
        due.is("count(8)", x.count(8), 2);
        for (int i = 3; i <= 200; i++) {
            due.is("write(32)", x.write(32), i);
        }
        due.is("write(32) once more", x.write(32), FULL);
        due.is("write(256) once more", x.write(256), OUTSIDE);
        due.is("count(8)", x.count(8), 200);
        due.is("erase()", x.erase(), 200);
        due.is("count(8)", x.count(8), 0);
        due.is("write(116)", x.write(116), 1);
    }

    private void faultsOfTokens() {
        due.part("4 fault, tokens");
        faultIs("", 0);
        faultIs("   ", 3);
        faultIs("tables 3", 0);
        faultIs("tablez 3", 0);
        faultIs("atable 3", 0);
        faultIs("tabl 3", 0);
        faultIs("Table 3", 0);
        faultIs("  cell 3", 2);
        faultIs("3", 0);
        faultIs(";", 0);
        faultIs("table 3\t", 7);
        faultIs("table 3" + (char) 233, 7);
        faultIs("table 3.", 7);
        faultIs("table -3", 6);
        faultIs("table 3 x", 8);
        faultIs("table 3x", 7);
        faultIs("table 003", 6);
        faultIs("table 03", NONE);
        faultIs("table 3 table 3", 8);
        faultIs("table 3,4", 7);
        faultIs("row" + (char) 0 + "0 0 1", 3);
    }

    private void faultsOfClauses() {
        due.part("4 fault, clauses");
        faultIs("table", 5);
        faultIs("table  ", 7);
        faultIs("table ;support 1", 6);
        faultIs("table 0", 6);
        faultIs("table 7", 6);
        faultIs("table 6 10", 8);
        faultIs("table 1 2 3 4 5", 14);
        faultIs("table 1 2 3 4", NONE);
        faultIs("table 4;", 8);
        faultIs("table 4; ", 9);
        faultIs("table 4;;table 4", 8);
        faultIs("support", 7);
        faultIs("support 0", 8);
        faultIs("support 9", NONE);
        faultIs("support 1", NONE);
        faultIs("support 10", 8);
        faultIs("support 3 4", 10);
        faultIs("support x", 8);
        faultIs("row 3 3 99", NONE);
        faultIs("row 4 3 99", 4);
        faultIs("row 3 4 99", 6);
        faultIs("row 3 3 100", 8);
        faultIs("row 3 3", 7);
        faultIs("row 3;row 3 3 1", 5);
        faultIs("row 3 3 1 1", 10);
        faultIs("row 3 3 -1", 8);
        faultIs("table 1;row 0 9", NONE);
        faultIs("table 1;row 1 9", 12);
        faultIs("table 1;row 0 9;table 3;row 2 9;row 3 9", 36);
        CubeClosures x = told("table 1 6 1");
        tell(x, "row 0 5 0 7;row 0 5 1 7");
        due.is("fault() by the table that is", x.fault(), 20);
    }

    private void faultsOfTooMany() {
        due.part("4 fault, too many");
        CubeClosures x = told("table 1");
        tell(x, repeated("row 0 1", 24));
        due.is("fault() of 24 clauses", x.fault(), NONE);
        tell(x, ";");
        due.is("fault() of 24 clauses and ;", x.fault(), 24 * 8 - 1);
        tell(x, "row 0 1");
        due.is("fault() of 25 clauses", x.fault(), 24 * 8 - 1);
        x.erase();
        for (int i = 0; i < 39; i++) {
            x.add(1, 0);
        }
        tell(x, "row 0 1; row 0 2");
        due.is("fault() at the forty-first's word", x.fault(), 9);
        x.erase();
        tell(x, "row 0 1;support 2");
        due.is("fault() of the fortieth", x.fault(), NONE);
        x.erase();
        tell(x, "row 0 1;table 1;row 0 1");
        due.is("fault() with a table between", x.fault(), NONE);
    }

    private void faultsWhereMoreStoodBefore() {
        due.part("4 fault, where more stood before");
        String[][] texts = {{"support 12", "support 1", "-1"}, {"table  ", "table", "5"}, {"tables 4", "table", "5"},
            {"table 4;", "table 4", "-1"}};
        for (String[] both : texts) {
            CubeClosures x = new CubeClosures();
            tell(x, both[0]);
            x.erase();
            tell(x, both[1]);
            due.is("fault() of '" + both[1] + "' behind '" + both[0] + "'", x.fault(), Integer.parseInt(both[2]));
        }
        faultIs("table" + " ".repeat(195), 200);
        faultIs(" ".repeat(195) + "table", 200);
        faultIs(" ".repeat(193) + "table 4", NONE);
        faultIs(" ".repeat(192) + "table 4;", 200);
    }

    private void textsThatStand() {
        due.part("4 fault, none");
        faultIs("  support   3  ;  row  1  2  3  ", NONE);
        faultIs("support3;row01 02 03", NONE);
        faultIs("support 3;support 3", NONE);
        faultIs("table 1;table 2;table 3", NONE);
    }

    private void read() {
        due.part("5 read");
        CubeClosures x = four();
        x.support(3);
        x.keep(0);
        x.row(1, 4);
        x.set(1, 2, 77);
        tell(x, "row 2 3 42 ; row 0 0 0");
        due.is("read()", x.read(), 2);
        stateIs(x, 8, 9, 16, 8, 25, 8);
        due.is("entry(4, 1)", x.entry(4, 1), 1042);
        due.is("count(2) stays", x.count(2), 3);
        due.is("count(7)", x.count(7), 0);
        due.is("count(8)", x.count(8), 0);
        due.is("undo()", x.undo(), NOT);
        due.is("back(0)", x.back(0), NOT);
        due.is("count(6) stays", x.count(6), 4);
        x.sum(1);
        due.is("asked() stays", x.asked(), 77);
        tell(x, "support 5");
        due.is("read()", x.read(), 1);
        due.is("count(1) stays", x.count(1), 6);
        due.is("count(2)", x.count(2), 5);
        tell(x, "support 7;table 3 1 6;row 2 0 5 9");
        due.is("read()", x.read(), 3);
        due.is("count(0)", x.count(0), 3);
        due.is("count(5)", x.count(5), 316);
        due.is("count(2) as at first", x.count(2), 1);
        stateIs(x, 3 * 49 + 7 + 6);
        cubeIs(x, 3 * 49 + 7 + 6);
        tell(x, "row 0 0 0 1;table 2");
        due.is("read()", x.read(), 2);
        stateIs(x);
        cubeIs(x);
        due.is("count(4)", x.count(4), 0);
        due.is("key()", x.key(), 0);
        due.is("cell(1, 0)", x.cell(1, 0), 0);
    }

    private void readThatIsRefused() {
        due.part("5 read, refused");
        CubeClosures x = four();
        x.keep(1);
        tell(x, "table 2;row 0 1;row 2 1");
        due.is("read()", x.read(), NOT);
        stateIs(x, 8, 9, 16, 8);
        due.is("count(8)", x.count(8), 23);
        due.is("count(7)", x.count(7), 4);
        due.is("count(5)", x.count(5), 44);
        due.is("back(1)", x.back(1), 4);
        x.erase();
        due.is("read() of no letters", x.read(), NOT);
    }

    // ---- promises 6 to 12

    private void add() {
        due.part("6 add");
        CubeClosures x = new CubeClosures();
        int[] wrong = {0, 1, 7, 14, 12, 13, 36, 43, 33 + 7, 49, 57, -1, -8, 2401, MOST, LEAST};
        for (int code : wrong) {
            due.is("add(" + code + ", 0)", x.add(code, 0), OUTSIDE);
        }
        due.is("add(8, 100)", x.add(8, 100), OUTSIDE);
        due.is("add(8, -100)", x.add(8, -100), OUTSIDE);
        due.is("add(8, least)", x.add(8, LEAST), OUTSIDE);
        due.is("count(7)", x.count(7), 0);
        due.is("add(8, 99)", x.add(8, 99), 1);
        due.is("add(32, -99)", x.add(32, -99), 2);
        stateIs(x, 8, 32);
        for (int i = 3; i <= 40; i++) {
            due.is("add(9, 0)", x.add(9, 0), i);
        }
        due.is("add(9, 0) once more", x.add(9, 0), FULL);
        due.is("add(0, 0) when full", x.add(0, 0), OUTSIDE);
        due.is("count(1)", x.count(1), 40);
        due.is("cell(0, 0)", x.cell(0, 0), 40);
        due.is("cell(9, 0)", x.cell(9, 0), 38);
        CubeClosures line = told("table 6");
        due.is("add(6, 0)", line.add(6, 0), 1);
        due.is("add(7, 0)", line.add(7, 0), OUTSIDE);
    }

    private void remove() {
        due.part("7 remove");
        CubeClosures x = four();
        due.is("cell(9, 0) before", x.cell(9, 0), 1);
        due.is("remove(4)", x.remove(4), UNKNOWN);
        due.is("remove(-1)", x.remove(-1), UNKNOWN);
        due.is("remove(most)", x.remove(MOST), UNKNOWN);
        due.is("count(7)", x.count(7), 4);
        due.is("remove(1)", x.remove(1), 3);
        stateIs(x, 8, 16, 8);
        due.is("entry(2, 1)", x.entry(2, 1), 1001);
        due.is("cell(0, 1)", x.cell(0, 1), 10013);
        due.is("cell(9, 0)", x.cell(9, 0), 0);
        due.is("cell(16, 1)", x.cell(16, 1), 10007);
        cubeIs(x, 0, 8, 16);
        due.is("count(4)", x.count(4), 7);
        due.is("remove(2)", x.remove(2), 2);
        stateIs(x, 8, 16);
        due.is("remove(0)", x.remove(0), 1);
        due.is("remove(0)", x.remove(0), 0);
        due.is("remove(0)", x.remove(0), UNKNOWN);
        cubeIs(x);
        due.is("count(4) of none", x.count(4), 0);
        due.is("cell(8, 0) of none", x.cell(8, 0), 0);
        due.is("key() of none", x.key(), 0);
        due.is("best(1) of none", x.best(1), 0);
    }

    private void removeOfForty() {
        due.part("7 remove, of forty");
        CubeClosures x = told("table 6 6");
        for (int i = 0; i < 40; i++) {
            x.add(8 + i % 6, i);
        }
        due.is("count(3)", x.count(3), 7);
        due.is("remove(39)", x.remove(39), 39);
        due.is("cell(7, 0)", x.cell(7, 0), 39);
        due.is("count(3)", x.count(3), 7);
        due.is("undo()", x.undo(), 7);
        due.is("remove(0)", x.remove(0), 39);
        due.is("entry(38, 1)", x.entry(38, 1), 1039);
        due.is("undo()", x.undo(), 7);
        due.is("remove(25)", x.remove(25), 39);
        due.is("entry(24, 1)", x.entry(24, 1), 1024);
        due.is("entry(25, 1)", x.entry(25, 1), 1026);
        due.is("undo()", x.undo(), 7);
        for (int i = 0; i < 40; i++) {
            due.is("entry(" + i + ", 0)", x.entry(i, 0), 8 + i % 6);
            due.is("entry(" + i + ", 1)", x.entry(i, 1), 1000 + i);
        }
        due.is("cell(7, 1)", x.cell(7, 1), 10000 + 780);
    }

    private void support() {
        due.part("8 support");
        CubeClosures x = new CubeClosures();
        due.is("support(1)", x.support(1), NOT);
        due.is("support(0)", x.support(0), OUTSIDE);
        due.is("support(10)", x.support(10), OUTSIDE);
        due.is("support(least)", x.support(LEAST), OUTSIDE);
        due.is("count(7)", x.count(7), 0);
        due.is("support(9)", x.support(9), 1);
        due.is("support(9)", x.support(9), NOT);
        due.is("support(3)", x.support(3), 9);
        due.is("count(2)", x.count(2), 3);
        due.is("count(7)", x.count(7), 2);
    }

    private void undo() {
        due.part("9 undo");
        CubeClosures x = four();
        due.is("remove(1)", x.remove(1), 3);
        due.is("cell(0, 0) before", x.cell(0, 0), 3);
        due.is("support(2)", x.support(2), 1);
        due.is("undo() of support", x.undo(), 5);
        due.is("count(2)", x.count(2), 1);
        due.is("undo() of remove", x.undo(), 4);
        stateIs(x, 8, 9, 16, 8);
        int[] measures = {5, -99, 7, 1};
        for (int i = 0; i < measures.length; i++) {
            due.is("entry(" + i + ", 1)", x.entry(i, 1), 1000 + measures[i]);
        }
        due.is("cell(9, 1)", x.cell(9, 1), 9901);
        due.is("cell(16, 1)", x.cell(16, 1), 10007);
        cubeIs(x, 0, 2, 7, 8, 9, 16);
        due.is("undo() of add", x.undo(), 3);
        stateIs(x, 8, 9, 16);
        due.is("cell(8, 0)", x.cell(8, 0), 1);
        due.is("count(7)", x.count(7), 3);
        for (int i = 0; i < 9; i++) {
            x.add(32, i);
        }
        due.is("count(7) of many", x.count(7), 8);
        for (int left = 7; left >= 0; left--) {
            due.is("undo()", x.undo(), left);
        }
        due.is("undo() of none", x.undo(), NOT);
        stateIs(x, 8, 9, 16, 32);
        due.is("add after", x.add(8, 3), 5);
        due.is("undo()", x.undo(), 0);
        stateIs(x, 8, 9, 16, 32);
    }

    private void keepAndBack() {
        due.part("10 keep, 11 back");
        CubeClosures x = four();
        due.is("keep(-1)", x.keep(-1), UNKNOWN);
        due.is("keep(2)", x.keep(2), UNKNOWN);
        due.is("back(2)", x.back(2), UNKNOWN);
        due.is("back(-1)", x.back(-1), UNKNOWN);
        due.is("back(1)", x.back(1), NOT);
        due.is("keep(1)", x.keep(1), 4);
        due.is("count(7) behind keep", x.count(7), 4);
        x.support(2);
        x.remove(0);
        x.remove(0);
        due.is("keep(0)", x.keep(0), 2);
        x.add(32, 9);
        due.is("cell(32, 0) before", x.cell(32, 0), 1);
        due.is("back(1)", x.back(1), 4);
        due.is("cell(32, 0)", x.cell(32, 0), 0);
        stateIs(x, 8, 9, 16, 8);
        due.is("entry(1, 1)", x.entry(1, 1), 901);
        due.is("count(2)", x.count(2), 1);
        due.is("count(3)", x.count(3), 6);
        due.is("undo()", x.undo(), NOT);
        due.is("back(0)", x.back(0), 2);
        stateIs(x, 16, 8);
        due.is("count(2)", x.count(2), 2);
        x.add(8, 1);
        due.is("keep(0) anew", x.keep(0), 3);
        x.remove(0);
        due.is("back(0)", x.back(0), 3);
        due.is("back(0) again", x.back(0), 3);
        tell(x, "support 3");
        due.is("read()", x.read(), 1);
        due.is("back(0) behind a text", x.back(0), NOT);
        due.is("back(1) behind a text", x.back(1), NOT);
    }

    private void entry() {
        due.part("12 entry");
        CubeClosures x = four();
        due.is("entry(1, 0)", x.entry(1, 0), 9);
        due.is("entry(1, 1)", x.entry(1, 1), 901);
        due.is("entry(3, 1)", x.entry(3, 1), 1001);
        due.is("entry(4, 0)", x.entry(4, 0), UNKNOWN);
        due.is("entry(-1, 0)", x.entry(-1, 0), UNKNOWN);
        due.is("entry(4, 2)", x.entry(4, 2), UNKNOWN);
        due.is("entry(3, 2)", x.entry(3, 2), OUTSIDE);
        due.is("entry(3, -1)", x.entry(3, -1), OUTSIDE);
    }

    // ---- promises 13 to 16

    private void cell() {
        due.part("13 cell");
        CubeClosures x = four();
        int[][] dues = {{0, 4, 9914, 9901, 10007}, {7, 3, 9907, 9901, 10005}, {1, 2, 10006, 10001, 10005},
            {2, 2, 9908, 9901, 10007}, {8, 2, 10006, 10001, 10005}, {16, 1, 10007, 10007, 10007},
            {15, 0, 10000, NONE, NONE}, {32, 0, 10000, NONE, NONE}};
        for (int[] row : dues) {
            for (int what = 0; what < 4; what++) {
                due.is("cell(" + row[0] + ", " + what + ")", x.cell(row[0], what), row[what + 1]);
            }
        }
        due.is("cell(0, 2) of one", told("row 0 0 5").cell(0, 2), 10005);
        due.is("cell(0, 4)", x.cell(0, 4), OUTSIDE);
        due.is("cell(0, -1)", x.cell(0, -1), OUTSIDE);
        int[] wrong = {5, 6, 33, 34, 35, 42, 49, -1, -7, -49, 343, MOST, LEAST};
        for (int code : wrong) {
            due.is("cell(" + code + ", 0)", x.cell(code, 0), OUTSIDE);
        }
        CubeClosures most = told("table 1");
        for (int i = 0; i < 40; i++) {
            most.add(1, -99);
        }
        due.is("cell(1, 1)", most.cell(1, 1), 10000 - 3960);
        due.is("cell(0, 3)", most.cell(0, 3), 9901);
    }

    private void closure() {
        due.part("14 closure");
        CubeClosures x = four();
        due.is("closure(0)", x.closure(0), 0);
        due.is("closure(7)", x.closure(7), 7);
        due.is("closure(14)", x.closure(14), 16);
        due.is("closure(1)", x.closure(1), 8);
        due.is("closure(2)", x.closure(2), 2);
        due.is("closure(15)", x.closure(15), NONE);
        due.is("closure(5)", x.closure(5), OUTSIDE);
        due.is("closure(-1)", x.closure(-1), OUTSIDE);
        x.support(9);
        due.is("closure(1) whatever the support", x.closure(1), 8);
        CubeClosures narrow = told("table 1 3;row 0 1 5;row 0 2 5");
        due.is("closure(0) with one value", narrow.closure(0), 7);
    }

    private void kept() {
        due.part("15 kept");
        CubeClosures x = four();
        cubeIs(x, 0, 2, 7, 8, 9, 16);
        due.is("kept(-1)", x.kept(-1), OUTSIDE);
        due.is("kept(least)", x.kept(LEAST), OUTSIDE);
        due.is("kept(most)", x.kept(MOST), NONE);
        x.support(2);
        cubeIs(x, 0, 2, 7, 8);
        x.support(5);
        cubeIs(x);
    }

    private void ask() {
        due.part("16 ask");
        CubeClosures x = four();
        due.is("ask(1, 0)", x.ask(1, 0), 2);
        due.is("ask(1, 1)", x.ask(1, 1), 10006);
        due.is("ask(14, 1)", x.ask(14, 1), 10007);
        due.is("ask(15, 0)", x.ask(15, 0), NONE);
        due.is("ask(1, 2)", x.ask(1, 2), OUTSIDE);
        due.is("ask(1, -1)", x.ask(1, -1), OUTSIDE);
        due.is("ask(5, 0)", x.ask(5, 0), OUTSIDE);
        x.support(2);
        due.is("ask(14, 0)", x.ask(14, 0), NONE);
        due.is("ask(1, 0)", x.ask(1, 0), 2);
    }

    // ---- promises 17 and 18

    /** By 0 first: six at 0, six at 1, and the five at value 0 of dimension 0 once more, at place 1. */
    private static CubeClosures lopsided() {
        return told("table 2 6;support 2;row 0 0 1;row 0 1 1;row 0 2 1;row 0 3 1;row 0 4 1;row 1 0 1");
    }

    private void part() {
        due.part("17 part");
        CubeClosures x = lopsided();
        due.is("part(1, 0)", x.part(1, 0), 6 + 6 + 5);
        due.is("part(10, 0)", x.part(10, 0), 6 + 6 + 2);
        due.is("part(1, 1)", x.part(1, 1), 2);
        due.is("part(10, 1)", x.part(10, 1), 2);
        int[] wrong = {0, 11, 12, 100, 101, -1, -10, MOST, LEAST};
        for (int order : wrong) {
            due.is("part(" + order + ", 0)", x.part(order, 0), OUTSIDE);
        }
        due.is("part(1, 2)", x.part(1, 2), OUTSIDE);
        due.is("part(1, -1)", x.part(1, -1), OUTSIDE);
        x.support(9);
        due.is("part(1, 0) of too few", x.part(1, 0), 12);
        due.is("part(1, 1) of too few", x.part(1, 1), 0);
        CubeClosures fewer = four();
        due.is("part(1, 1) of four", fewer.part(1, 1), 7);
        fewer.remove(1);
        fewer.remove(1);
        due.is("part(1, 1) of fewer", fewer.part(1, 1), 3);
        due.is("part(1, 0) of fewer", fewer.part(1, 0), 6);
        CubeClosures line = told("table 3;row 0 1;row 2 1;row 2 1");
        due.is("part(0, 0)", line.part(0, 0), 3);
        due.is("part(0, 1)", line.part(0, 1), 2);
        due.is("part(1, 0)", line.part(1, 0), OUTSIDE);
        CubeClosures deep = told("table 6 6 6 6;row 1 2 3 4 5");
        due.is("part(123, 0)", deep.part(123, 0), 4 + 3 + 2 * 2 + 4);
        due.is("part(3210, 1)", deep.part(3210, 1), 15);
        due.is("part(3211, 1)", deep.part(3211, 1), OUTSIDE);
        due.is("part(1234, 1)", deep.part(1234, 1), OUTSIDE);
    }

    private void best() {
        due.part("18 best");
        CubeClosures x = lopsided();
        due.is("best(0)", x.best(0), 10);
        due.is("best(1)", x.best(1), 14);
        due.is("best(2)", x.best(2), OUTSIDE);
        due.is("best(-1)", x.best(-1), OUTSIDE);
        x.support(9);
        due.is("best(0) of like ones", x.best(0), 1);
        CubeClosures three = told("table 1 1 6;support 2;row 0 0 0 1;row 0 0 1 1;row 0 0 2 1");
        due.is("best(0) of three", three.best(0), 201);
        due.is("best(1) of three", three.best(1), 9 + 3);
        CubeClosures deep = told("table 6 6 6 6");
        due.is("best(0) of none", deep.best(0), 123);
        due.is("best(1) of none", deep.best(1), 0);
        due.is("best(0) of one dimension", told("table 6").best(0), 0);
        bestByEachOrder(new int[][] {
            {0, 0, 0}, {1, 0, 0}, {2, 0, 0}, {3, 1, 0}, {4, 1, 0}, {5, 2, 0}});
        bestByEachOrder(new int[][] {
            {0, 0, 0, 0}, {1, 0, 0, 0}, {2, 1, 0, 0}, {3, 1, 0, 0}, {4, 2, 1, 0}, {5, 3, 2, 0}, {0, 4, 1, 0}});
    }

    /** Dimension 0 of the rows parts most, the last one least; they are put in each order into a table. */
    private void bestByEachOrder(int[][] rows) {
        int dimensions = rows[0].length;
        int most = (int) Math.pow(10, dimensions);
        for (int order = 0; order < most; order++) {
            String figures = ("000" + order).substring(("000" + order).length() - dimensions);
            if (figures.chars().distinct().count() < dimensions || figures.chars().anyMatch(f -> f - '0' >= dimensions)) {
                continue;
            }
            CubeClosures x = told("table" + " 6".repeat(dimensions) + ";support 2");
            for (int[] row : rows) {
                int[] values = new int[dimensions];
                for (int place = 0; place < dimensions; place++) {
                    values[figures.charAt(place) - '0'] = row[place];
                }
                int code = 0;
                for (int value : values) {
                    code = code * 7 + value + 1;
                }
                x.add(code, 0);
            }
            due.is("best(0) by " + figures, x.best(0), order);
            due.is("best(1) by " + figures, x.best(1), x.part(order, 0));
        }
    }

    // ---- promises 19 to 23

    private void more() {
        due.part("19 more");
        CubeClosures x = four();
        due.is("more(8, 0)", x.more(8, 0), 6);
        due.is("more(8, 1)", x.more(8, 1), 0);
        due.is("more(15, 0)", x.more(15, 0), 9);
        due.is("more(15, 1)", x.more(15, 1), 3);
        due.is("more(32, 0)", x.more(32, 0), 7);
        due.is("count(1)", x.count(1), 4);
        due.is("count(7)", x.count(7), 4);
        cubeIs(x, 0, 2, 7, 8, 9, 16);
        due.is("more(7, 0)", x.more(7, 0), OUTSIDE);
        due.is("more(0, 0)", x.more(0, 0), OUTSIDE);
        due.is("more(-8, 0)", x.more(-8, 0), OUTSIDE);
        due.is("more(33, 0)", x.more(33, 0), OUTSIDE);
        due.is("more(8, 2)", x.more(8, 2), OUTSIDE);
        due.is("more(8, -1)", x.more(8, -1), OUTSIDE);
        x.support(3);
        due.is("more(8, 1) by support", x.more(8, 1), 1);
        x.support(4);
        due.is("more(8, 1) by one too few", x.more(8, 1), 1);
        due.is("more(9, 1) by one too few", x.more(9, 1), 1);
        due.is("more(16, 1) by two too few", x.more(16, 1), 0);
        CubeClosures one = told("row 0 0 1");
        due.is("more(16, 0) of all", one.more(16, 0), 3);
        due.is("more(16, 1) of all", one.more(16, 1), 2);
        CubeClosures full = told("table 1");
        for (int i = 0; i < 40; i++) {
            due.is("more(1, 1)", full.more(1, 1), i == 0 ? 1 : 0);
            full.add(1, 0);
        }
        due.is("more(1, 0) when full", full.more(1, 0), FULL);
        due.is("more(0, 0) when full", full.more(0, 0), OUTSIDE);
    }

    private void less() {
        due.part("20 less");
        CubeClosures x = four();
        due.is("less(0, 0)", x.less(0, 0), 6);
        due.is("less(0, 1)", x.less(0, 1), 0);
        due.is("less(1, 0)", x.less(1, 0), 3);
        due.is("less(1, 1)", x.less(1, 1), 3);
        due.is("less(2, 0)", x.less(2, 0), 3);
        due.is("count(1)", x.count(1), 4);
        cubeIs(x, 0, 2, 7, 8, 9, 16);
        due.is("less(4, 0)", x.less(4, 0), UNKNOWN);
        due.is("less(-1, 0)", x.less(-1, 0), UNKNOWN);
        due.is("less(4, 2)", x.less(4, 2), UNKNOWN);
        due.is("less(0, 2)", x.less(0, 2), OUTSIDE);
        due.is("less(0, -1)", x.less(0, -1), OUTSIDE);
        x.support(2);
        due.is("less(0, 0) by support", x.less(0, 0), 3);
        CubeClosures one = told("row 0 0 1");
        due.is("less(0, 0) of one", one.less(0, 0), 0);
        due.is("less(0, 1) of one", one.less(0, 1), 1);
    }

    private void cap() {
        due.part("21 cap");
        CubeClosures x = four();
        int[] dues = {5, 4, 3, 3, 2, 2, 1, 1};
        for (int k = 0; k < dues.length; k++) {
            due.is("cap(" + k + ")", x.cap(k), dues[k]);
        }
        due.is("cap(2400)", x.cap(2400), 1);
        due.is("cap(2401)", x.cap(2401), OUTSIDE);
        due.is("cap(-1)", x.cap(-1), OUTSIDE);
        x.support(9);
        due.is("cap(6) whatever the support", x.cap(6), 1);
        due.is("count(2)", x.count(2), 9);
        CubeClosures full = told("table 1");
        for (int i = 0; i < 40; i++) {
            full.add(1, 0);
        }
        due.is("cap(0) of forty", full.cap(0), 41);
        due.is("cap(1) of forty", full.cap(1), 1);
        full.remove(39);
        due.is("cap(0) of thirty-nine", full.cap(0), 40);
    }

    private void key() {
        due.part("22 key");
        due.is("key() of none", told("table 1").key(), 0);
        due.is("key() of one", told("table 1;row 0 5").key(), 0);
        due.is("key() of two alike", told("table 1;row 0 5;row 0 6").key(), NONE);
        due.is("key() by either", told("row 0 0 1;row 1 1 1").key(), 1);
        due.is("key() by the second", told("row 0 0 1;row 0 1 1").key(), 2);
        due.is("key() by both", told("row 0 0 1;row 0 1 1;row 1 1 1").key(), 3);
        due.is("key() by one rather than by two",
                told("table 2 2 4;row 0 0 0 1;row 0 1 1 1;row 1 0 2 1;row 1 1 3 1").key(), 4);
        due.is("key() by the last two", told("table 1 2 2;row 0 0 0 1;row 0 0 1 1;row 0 1 0 1").key(), 6);
        due.is("key() of two alike among four", four().key(), NONE);
        due.is("key() in four dimensions", told("table 6 6 6 6;row 1 2 3 4 5;row 1 2 3 4 6").key(), NONE);
    }

    private void rule() {
        due.part("23 rule");
        CubeClosures x = told("table 3 3 2;row 0 0 0 1;row 0 0 1 1;row 1 2 0 1;row 2 2 1 1");
        due.is("rule(1, 1)", x.rule(1, 1), 1);
        due.is("rule(2, 0)", x.rule(2, 0), 0);
        due.is("rule(6, 0)", x.rule(6, 0), 1);
        due.is("rule(4, 0)", x.rule(4, 0), 0);
        due.is("rule(0, 0)", x.rule(0, 0), 0);
        due.is("rule(4, 2)", x.rule(4, 2), 1);
        due.is("rule(7, 2)", x.rule(7, 2), 1);
        due.is("rule(8, 0)", x.rule(8, 0), OUTSIDE);
        due.is("rule(-1, 0)", x.rule(-1, 0), OUTSIDE);
        due.is("rule(0, 3)", x.rule(0, 3), OUTSIDE);
        due.is("rule(0, -1)", x.rule(0, -1), OUTSIDE);
        due.is("rule(most, most)", x.rule(MOST, MOST), OUTSIDE);
        CubeClosures none = new CubeClosures();
        due.is("rule(0, 1) of none", none.rule(0, 1), 1);
        none.add(8, 0);
        due.is("rule(0, 1) of one", none.rule(0, 1), 1);
        none.add(8, 1);
        due.is("rule(0, 1) of two alike", none.rule(0, 1), 1);
    }

    // ---- promises 24 to 32

    private void row() {
        due.part("24 row");
        CubeClosures x = new CubeClosures();
        due.is("row(-1, 3)", x.row(-1, 3), UNKNOWN);
        due.is("row(3, 3)", x.row(3, 3), UNKNOWN);
        due.is("row(3, 13)", x.row(3, 13), UNKNOWN);
        due.is("row(0, 13)", x.row(0, 13), OUTSIDE);
        due.is("row(0, -1)", x.row(0, -1), SIZE);
        due.is("row(0, least)", x.row(0, LEAST), SIZE);
        due.is("drop(0) still missing", x.drop(0), NULL);
        due.is("row(0, 0)", x.row(0, 0), 0);
        due.is("row(1, 12)", x.row(1, 12), 12);
        due.is("row(2, 2)", x.row(2, 2), 2);
        due.is("count(6)", x.count(6), 14);
        due.is("set(1, 11, 5)", x.set(1, 11, 5), 1);
        due.is("set(2, 1, 7)", x.set(2, 1, 7), 1);
        due.is("row(1, -1)", x.row(1, -1), SIZE);
        due.is("row(1, 13)", x.row(1, 13), OUTSIDE);
        due.is("sum(1) stays", x.sum(1), 12);
        due.is("asked()", x.asked(), 5);
        due.is("row(1, 12) anew", x.row(1, 12), 12);
        due.is("sum(1)", x.sum(1), 12);
        due.is("asked() of noughts", x.asked(), 0);
        x.set(1, 0, 3);
        x.row(1, 1);
        x.sum(1);
        due.is("asked() of one nought", x.asked(), 0);
        due.is("row(2, 1) shorter", x.row(2, 1), 1);
        due.is("row(2, 2) longer", x.row(2, 2), 2);
        due.is("sum(2)", x.sum(2), 2);
        due.is("asked() of noughts", x.asked(), 0);
    }

    private void set() {
        due.part("25 set");
        CubeClosures x = new CubeClosures();
        due.is("set(3, 0, 1)", x.set(3, 0, 1), UNKNOWN);
        due.is("set(-1, 0, 1)", x.set(-1, 0, 1), UNKNOWN);
        due.is("set(0, 0, 1)", x.set(0, 0, 1), NULL);
        due.is("set(0, -1, 1)", x.set(0, -1, 1), NULL);
        x.row(0, 2);
        due.is("set(0, 2, 1)", x.set(0, 2, 1), INDEX);
        due.is("set(0, -1, 1)", x.set(0, -1, 1), INDEX);
        due.is("set(0, 1, least)", x.set(0, 1, LEAST), 1);
        due.is("set(0, 0, 4)", x.set(0, 0, 4), 1);
        due.is("set(0, 0, 3)", x.set(0, 0, 3), 1);
        x.sum(0);
        due.is("asked()", x.asked(), LEAST + 3L);
        x.row(1, 0);
        due.is("set(1, 0, 1)", x.set(1, 0, 1), INDEX);
    }

    private void work() {
        due.part("26 work");
        CubeClosures x = new CubeClosures();
        due.is("work(3, 0, 3, 1)", x.work(3, 0, 3, 1), UNKNOWN);
        due.is("work(-1, 0, 0, 1)", x.work(-1, 0, 0, 1), UNKNOWN);
        due.is("work(0, 0, 3, 1)", x.work(0, 0, 3, 1), OUTSIDE);
        due.is("work(0, 0, -1, 1)", x.work(0, 0, -1, 1), OUTSIDE);
        due.is("work(0, 9, 0, 1)", x.work(0, 9, 0, 1), NULL);
        x.row(0, 2);
        due.is("work(0, 2, 0, 1)", x.work(0, 2, 0, 1), INDEX);
        due.is("work(0, -1, 0, 1)", x.work(0, -1, 0, 1), INDEX);
        due.is("asked()", x.asked(), 0);
        due.is("work(0, 1, 0, 7)", x.work(0, 1, 0, 7), 1);
        due.is("asked()", x.asked(), 7);
        due.is("work(0, 1, 1, 7)", x.work(0, 1, 1, 7), 1);
        due.is("asked()", x.asked(), 0);
        due.is("work(0, 1, 0, 7)", x.work(0, 1, 0, 7), 1);
        due.is("work(0, 1, 1, 10)", x.work(0, 1, 1, 10), 1);
        due.is("asked()", x.asked(), -3);
        due.is("work(0, 1, 2, least)", x.work(0, 1, 2, LEAST), 1);
        due.is("asked()", x.asked(), 3L << 31);
        due.is("work(0, 1, 2, -1)", x.work(0, 1, 2, -1), 1);
        due.is("asked()", x.asked(), -(3L << 31));
        due.is("work(0, 1, 1, least)", x.work(0, 1, 1, LEAST), 1);
        due.is("asked()", x.asked(), -(2L << 31));
        x.sum(0);
        due.is("asked() by sum", x.asked(), -(2L << 31));
        due.is("work(0, 1, 2, 0)", x.work(0, 1, 2, 0), 1);
        due.is("asked()", x.asked(), 0);
    }

    /** Place 0 of row 0 is made the least long: 2 to the 31st, by itself, and twice, less its sign. */
    private static CubeClosures atTheLeastLong() {
        CubeClosures x = new CubeClosures();
        x.row(0, 3);
        x.set(0, 0, LEAST);
        x.work(0, 0, 2, LEAST);
        x.work(0, 0, 2, -2);
        return x;
    }

    private void workThatIsOver() {
        due.part("26 work, over");
        CubeClosures x = atTheLeastLong();
        due.is("asked()", x.asked(), Long.MIN_VALUE);
        due.is("work(0, 0, 1, 1)", x.work(0, 0, 1, 1), OVER);
        due.is("work(0, 0, 0, -1)", x.work(0, 0, 0, -1), OVER);
        due.is("work(0, 0, 2, -1)", x.work(0, 0, 2, -1), OVER);
        due.is("work(0, 0, 2, 2)", x.work(0, 0, 2, 2), OVER);
        due.is("work(0, 0, 2, least)", x.work(0, 0, 2, LEAST), OVER);
        due.is("asked() stays", x.asked(), Long.MIN_VALUE);
        due.is("work(0, 0, 2, 1)", x.work(0, 0, 2, 1), 1);
        due.is("work(0, 0, 0, 1)", x.work(0, 0, 0, 1), 1);
        due.is("asked()", x.asked(), Long.MIN_VALUE + 1);
        due.is("work(0, 0, 2, -1)", x.work(0, 0, 2, -1), 1);
        due.is("asked()", x.asked(), Long.MAX_VALUE);
        due.is("work(0, 0, 0, 1)", x.work(0, 0, 0, 1), OVER);
        due.is("work(0, 0, 1, -1)", x.work(0, 0, 1, -1), OVER);
        due.is("work(0, 0, 1, least)", x.work(0, 0, 1, LEAST), OVER);
        due.is("work(0, 0, 2, 2)", x.work(0, 0, 2, 2), OVER);
        due.is("work(0, 0, 2, 0)", x.work(0, 0, 2, 0), 1);
        due.is("asked()", x.asked(), 0);
    }

    private void bits() {
        due.part("27 bits");
        CubeClosures x = atTheLeastLong();
        due.is("bits(3, 0)", x.bits(3, 0), UNKNOWN);
        due.is("bits(1, 0)", x.bits(1, 0), NULL);
        due.is("bits(0, 3)", x.bits(0, 3), INDEX);
        due.is("bits(0, -1)", x.bits(0, -1), INDEX);
        due.is("asked() stays", x.asked(), Long.MIN_VALUE);
        due.is("bits(0, 0)", x.bits(0, 0), 1);
        due.is("asked()", x.asked(), 1);
        due.is("bits(0, 1)", x.bits(0, 1), 1);
        due.is("asked()", x.asked(), 0);
        x.set(0, 1, -1);
        x.bits(0, 1);
        due.is("asked()", x.asked(), 64);
        x.set(0, 1, MOST);
        x.bits(0, 1);
        due.is("asked()", x.asked(), 31);
    }

    private void sum() {
        due.part("28 sum");
        CubeClosures x = atTheLeastLong();
        due.is("sum(3)", x.sum(3), UNKNOWN);
        due.is("sum(-1)", x.sum(-1), UNKNOWN);
        due.is("sum(1)", x.sum(1), NULL);
        x.set(0, 1, 5);
        x.set(0, 2, -5);
        due.is("sum(0)", x.sum(0), 3);
        due.is("asked()", x.asked(), Long.MIN_VALUE);
        x.bits(0, 0);
        x.set(0, 1, -5);
        x.set(0, 2, 5);
        due.is("sum(0), over on the way", x.sum(0), OVER);
        due.is("asked() stays", x.asked(), 1);
        x.row(1, 0);
        due.is("sum(1) of no places", x.sum(1), 0);
        due.is("asked()", x.asked(), 0);
    }

    private void load() {
        due.part("29 load");
        CubeClosures x = four();
        due.is("load(3, 0, 5)", x.load(3, 0, 5), UNKNOWN);
        due.is("load(0, 9, 5)", x.load(0, 9, 5), OUTSIDE);
        due.is("load(0, 9, -1)", x.load(0, 9, -1), OUTSIDE);
        due.is("load(0, 9, 0)", x.load(0, 9, 0), NULL);
        x.row(0, 2);
        due.is("load(0, 2, 0)", x.load(0, 2, 0), INDEX);
        due.is("load(0, -1, 0)", x.load(0, -1, 0), INDEX);
        due.is("load(0, 1, 0)", x.load(0, 1, 0), 1);
        due.is("asked() is not of load", x.asked(), 0);
        x.sum(0);
        due.is("asked()", x.asked(), -86);
        x.support(9);
        due.is("load(0, 0, 8)", x.load(0, 0, 8), 1);
        x.sum(0);
        due.is("asked() whatever the support", x.asked(), -80);
        due.is("load(0, 1, 15) of none", x.load(0, 1, 15), 1);
        x.sum(0);
        due.is("asked()", x.asked(), 6);
    }

    private void drop() {
        due.part("30 drop");
        CubeClosures x = new CubeClosures();
        due.is("drop(3)", x.drop(3), UNKNOWN);
        due.is("drop(-1)", x.drop(-1), UNKNOWN);
        due.is("drop(2)", x.drop(2), NULL);
        x.row(2, 12);
        x.row(0, 0);
        due.is("drop(2)", x.drop(2), 12);
        due.is("drop(2) again", x.drop(2), NULL);
        due.is("set(2, 0, 1)", x.set(2, 0, 1), NULL);
        due.is("count(6)", x.count(6), 0);
        due.is("drop(0)", x.drop(0), 0);
        due.is("drop(0) again", x.drop(0), NULL);
    }

    private void asked() {
        due.part("31 asked");
        CubeClosures x = new CubeClosures();
        due.is("asked() before", x.asked(), 0);
        x.row(0, 2);
        x.set(0, 0, 12);
        due.is("asked() is not of set", x.asked(), 0);
        x.bits(0, 0);
        due.is("asked() of bits", x.asked(), 2);
        x.sum(0);
        due.is("asked() of sum", x.asked(), 12);
        x.work(0, 0, 0, 1);
        due.is("asked() of work", x.asked(), 13);
        x.bits(0, 5);
        x.sum(1);
        x.work(0, 0, 5, 1);
        x.drop(0);
        due.is("asked() behind refused ones", x.asked(), 13);
        tell(x, "table 1");
        x.read();
        due.is("asked() behind a text", x.asked(), 13);
    }

    private void count() {
        due.part("32 count");
        CubeClosures x = told("table 3 2 4;support 2;row 0 1 3 10;row 0 1 2 5;row 1 1 3 7");
        x.row(0, 5);
        x.row(2, 12);
        x.add(67, 1);
        x.write(32);
        int[] dues = {3, 4, 2, 4, 8, 324, 17, 1, 1};
        for (int what = 0; what < dues.length; what++) {
            due.is("count(" + what + ")", x.count(what), dues[what]);
        }
        due.is("count(9)", x.count(9), OUTSIDE);
        due.is("count(-1)", x.count(-1), OUTSIDE);
        due.is("count(least)", x.count(LEAST), OUTSIDE);
        CubeClosures plain = new CubeClosures();
        plain.add(8, 5);
        plain.add(9, -99);
        due.is("count(3) of the README", plain.count(3), 3);
        due.is("kept(0) of the README", plain.kept(0), 7);
        due.is("count(4) of the README", plain.count(4), 6);
        due.is("cell(7, 1) of the README", plain.cell(7, 1), 9906);
    }
}
