/** Promises 1 to 32, one by one: each sentence that names a bound has a test of its own. */
public final class CallsEdgesTest {
    private static final int NONE = -1, UNKNOWN = -2, OUTSIDE = -3, NOT = -4, FULL = -5,
            NULL = -11, INDEX = -12, SIZE = -13, OVER = -14;
    private static final int LEAST = Cubes.LEAST, MOST = Cubes.MOST;

    private final Due due = new Due();

    public static void main(String[] args) {
        CallsEdgesTest test = new CallsEdgesTest();
        test.tellings();
        test.entries();
        test.cells();
        test.partingAndForetold();
        test.rows();
        test.due.end();
    }

    private void tellings() {
        aNewObject();
        writeOfALetter();
        writeOfHowMany();
        eraseOfNone();
        eraseOfAll();
        faultOfNone();
        faultChangesNothing();
        readOfHowMany();
        readThatIsRefused();
    }

    private void entries() {
        addWithoutAll();
        addBehindTheOthers();
        addOfTheFortyFirst();
        removeOfTheFirstAndTheLast();
        removeOfTheFortieth();
        removeThoseBehind();
        removeInEachDimension();
        removeOfNone();
        supportWhichItWas();
        supportThatItIs();
        undoOfEach();
        undoOfWhatWasAskedFor();
        undoOfTheLastEight();
        undoAroundTheRing();
        undoOfRefusedCalls();
        undoInFullTables();
        undoOfNothingElse();
        keepOfEach();
        keepOfNoneAndOfForty();
        keepWhatWasKept();
        backAsItWas();
        backAgain();
        backUndone();
        backSinceTheLastText();
        entryOfEach();
    }

    private void cells() {
        cellOfEach();
        cellAtTheMostAndTheLeast();
        closureOfNone();
        keptOfEach();
        keptOfNone();
        askBySupport();
        askOfEach();
    }

    private void partingAndForetold() {
        partOfEach();
        bestOfEach();
        moreOfEach();
        moreOfTheCellOfAll();
        moreWhenFull();
        lessOfEach();
        capOfEach();
        keyOfNone();
        ruleOfEach();
    }

    private void rows() {
        rowOfNoughts();
        rowOfTooMany();
        rowOfFewerThanNone();
        rowAnew();
        setOfEachPlace();
        setOfEachNumber();
        workOfEachWay();
        workOverByAdding();
        workOverByTaking();
        workOverByMultiplying();
        workByOneAndNought();
        bitsOfNoneAndOfAll();
        sumOfNoPlaces();
        sumOnTheWay();
        sumAtTheBounds();
        loadAtTheBounds();
        loadOfNone();
        dropOfNoPlaces();
        dropOfEach();
        askedBefore();
        askedOfRefusedOnes();
        countAtFirst();
        countAtTheMost();
        countOfEach();
    }

    private static CubeClosures told(String text) {
        return Cubes.told(text);
    }

    // ---- 1 to 5

    private void aNewObject() {
        due.part("1: Two dimensions of four values, no entries");
        CubeClosures x = new CubeClosures();
        due.is("count(0)", x.count(0), 2);
        due.is("count(5)", x.count(5), 44);
        due.is("count(1)", x.count(1), 0);
        due.is("add(32, 0)", x.add(32, 0), 1);
        CubeClosures other = new CubeClosures();
        due.is("count(1) of another", other.count(1), 0);
        x.row(0, 1);
        due.is("sum(0) of another", other.sum(0), NULL);
        x.keep(0);
        due.is("back(0) of another", other.back(0), NOT);
        x.write(32);
        due.is("count(8) of another", other.count(8), 0);
    }

    private void writeOfALetter() {
        due.part("2: A letter (its number, 0 .. 255) more of THE TEXT");
        CubeClosures x = new CubeClosures();
        due.is("write(-1)", x.write(-1), OUTSIDE);
        due.is("write(256)", x.write(256), OUTSIDE);
        due.is("write(256 + 't')", x.write(256 + 't'), OUTSIDE);
        due.is("write(65536 + 't')", x.write(65536 + 't'), OUTSIDE);
        due.is("write(least)", x.write(LEAST), OUTSIDE);
        due.is("write(most)", x.write(MOST), OUTSIDE);
        due.is("count(8)", x.count(8), 0);
        due.is("write(0)", x.write(0), 1);
        due.is("write(255)", x.write(255), 2);
    }

    private void writeOfHowMany() {
        due.part("2: how many it has. FULL");
        CubeClosures x = new CubeClosures();
        for (int n = 1; n <= 200; n++) {
            due.is("write(97)", x.write(97), n);
        }
        due.is("write(97), the 201st", x.write(97), FULL);
        due.is("write(97) again", x.write(97), FULL);
        due.is("erase()", x.erase(), 200);
        due.is("write(97) behind erase()", x.write(97), 1);
    }

    private void eraseOfNone() {
        due.part("3: how many letters it had (none)");
        CubeClosures x = new CubeClosures();
        due.is("erase()", x.erase(), 0);
        due.is("erase() again", x.erase(), 0);
        Cubes.tell(x, "support 2");
        x.read();
        due.is("erase() behind read()", x.erase(), 0);
    }

    private void eraseOfAll() {
        due.part("3: THE TEXT is empty, and nothing else changes");
        CubeClosures x = Cubes.four();
        x.keep(1);
        x.write('s');
        due.is("erase() of one", x.erase(), 1);
        due.is("count(8)", x.count(8), 0);
        due.is("fault()", x.fault(), 0);
        due.is("count(7)", x.count(7), 4);
        due.is("back(1)", x.back(1), 4);
    }

    private void faultOfNone() {
        due.part("4: NONE");
        CubeClosures x = new CubeClosures();
        Cubes.tell(x, "support 2");
        due.is("fault()", x.fault(), NONE);
        x.write(';');
        due.is("fault() at the length", x.fault(), 10);
        x.erase();
        due.is("fault() of an empty text", x.fault(), 0);
        x.write('?');
        due.is("fault() at the first letter", x.fault(), 0);
    }

    private void faultChangesNothing() {
        due.part("4: fault() tells alone, and does nothing");
        CubeClosures x = Cubes.four();
        x.keep(0);
        Cubes.tell(x, "support 9;table 1;row 0 1");
        due.is("fault()", x.fault(), NONE);
        due.is("fault() again", x.fault(), NONE);
        due.is("count(2)", x.count(2), 1);
        due.is("count(5)", x.count(5), 44);
        due.is("count(1)", x.count(1), 4);
        due.is("count(8)", x.count(8), 25);
        due.is("count(7)", x.count(7), 4);
        due.is("back(0)", x.back(0), 4);
    }

    private void readOfHowMany() {
        due.part("5: it is empty then: how many there were");
        CubeClosures x = new CubeClosures();
        Cubes.tell(x, "support 2");
        due.is("read() of one", x.read(), 1);
        due.is("count(8)", x.count(8), 0);
        due.is("read() again", x.read(), NOT);
        Cubes.tell(x, Cubes.repeated("table 1", 24));
        due.is("read() of 24", x.read(), 24);
    }

    private void readThatIsRefused() {
        due.part("5: NOT: it has a FAULT");
        CubeClosures x = Cubes.four();
        Cubes.tell(x, "support 2;table 1;row 1 1");
        due.is("read()", x.read(), NOT);
        due.is("read() again", x.read(), NOT);
        due.is("count(8) stays", x.count(8), 25);
        due.is("count(2) stays", x.count(2), 1);
        due.is("count(1) stays", x.count(1), 4);
        due.is("count(7) stays", x.count(7), 4);
    }

    // ---- 6 to 9

    private void addWithoutAll() {
        due.part("6: by a CODE without ALL");
        CubeClosures x = told("table 6 6 6 6");
        int[] wrong = {0, 1, 7, 49, 343, 57, 399, 393, 351, 57 + 343 - 1, 2401, 2401 + 400, -400, LEAST, MOST};
        for (int code : wrong) {
            due.is("add(" + code + ", 0)", x.add(code, 0), OUTSIDE);
        }
        due.is("add(400, 0), the least", x.add(400, 0), 1);
        due.is("add(2400, 0), the greatest", x.add(2400, 0), 2);
        due.is("add(2394, 0), with all last", x.add(2394, 0), OUTSIDE);
        due.is("add(342, 0), with all first", x.add(342, 0), OUTSIDE);
        due.is("count(1)", x.count(1), 2);
    }

    private void addBehindTheOthers() {
        due.part("6: An ENTRY more, behind the others: how many there are");
        CubeClosures x = Cubes.four();
        x.remove(0);
        due.is("add(32, -99)", x.add(32, -99), 4);
        due.is("entry(3, 0)", x.entry(3, 0), 32);
        due.is("entry(3, 1)", x.entry(3, 1), 901);
        due.is("entry(0, 0)", x.entry(0, 0), 9);
    }

    private void addOfTheFortyFirst() {
        due.part("6: FULL: 40");
        CubeClosures x = Cubes.alike(39);
        due.is("add(1, 0)", x.add(1, 0), 40);
        due.is("add(1, 0), the forty-first", x.add(1, 0), FULL);
        due.is("count(1)", x.count(1), 40);
        due.is("undo()", x.undo(), 7);
        due.is("add(1, 0) behind undo()", x.add(1, 0), 40);
    }

    private void removeOfTheFirstAndTheLast() {
        due.part("7: UNKNOWN");
        CubeClosures x = Cubes.alike(40);
        due.is("remove(40)", x.remove(40), UNKNOWN);
        due.is("remove(-1)", x.remove(-1), UNKNOWN);
        due.is("remove(39)", x.remove(39), 39);
        due.is("remove(39)", x.remove(39), UNKNOWN);
        due.is("remove(0)", x.remove(0), 38);
        due.is("entry(0, 1)", x.entry(0, 1), 1001);
        due.is("entry(37, 1)", x.entry(37, 1), 1038);
        due.is("entry(38, 1)", x.entry(38, 1), UNKNOWN);
    }

    private void removeOfTheFortieth() {
        due.part("7: An ENTRY is taken out, of forty");
        CubeClosures x = told("table 6 6 6 6");
        for (int i = 0; i < 39; i++) {
            x.add(400, i);
        }
        x.add(2400, 99);
        due.is("count(3) of forty", x.count(3), 3);
        due.is("count(4) of forty", x.count(4), 31);
        due.is("cap(0) of forty", x.cap(0), 41);
        due.is("remove(39)", x.remove(39), 39);
        due.is("count(3) of thirty-nine", x.count(3), 1);
        due.is("count(4) of thirty-nine", x.count(4), 16);
        due.is("cap(0) of thirty-nine", x.cap(0), 40);
        due.is("cell(6, 0)", x.cell(6, 0), 0);
        due.is("cell(2058, 0)", x.cell(2058, 0), 0);
        due.is("closure(0)", x.closure(0), 400);
    }

    private void removeThoseBehind() {
        due.part("7: those behind it are by 1 less");
        for (int entry = 0; entry < 4; entry++) {
            CubeClosures x = Cubes.alike(4);
            due.is("remove(" + entry + ")", x.remove(entry), 3);
            for (int i = 0; i < 3; i++) {
                due.is("entry(" + i + ", 1)", x.entry(i, 1), 1000 + (i < entry ? i : i + 1));
            }
        }
    }

    private void removeInEachDimension() {
        due.part("7: those behind it are by 1 less, in what was asked for before, too");
        CubeClosures x = told("table 6 6 6 6;row 0 0 0 0 1;row 5 5 5 5 2");
        due.is("count(3)", x.count(3), 3);
        due.is("remove(0)", x.remove(0), 1);
        for (int weight = 1; weight <= 343; weight *= 7) {
            due.is("cell(" + weight + ", 0), of the one that is gone", x.cell(weight, 0), 0);
            due.is("cell(" + 6 * weight + ", 1), of the other", x.cell(6 * weight, 1), 10002);
        }
        due.is("count(3)", x.count(3), 1);
        due.is("closure(0)", x.closure(0), 2400);
    }

    private void removeOfNone() {
        due.part("7: how many there are (none)");
        CubeClosures x = Cubes.alike(1);
        due.is("remove(0)", x.remove(0), 0);
        due.is("remove(0) of none", x.remove(0), UNKNOWN);
        due.is("count(3)", x.count(3), 0);
    }

    private void supportWhichItWas() {
        due.part("8: SUPPORT is s (1 .. 9): which it was");
        CubeClosures x = new CubeClosures();
        due.is("support(9)", x.support(9), 1);
        due.is("support(1)", x.support(1), 9);
        due.is("support(0)", x.support(0), OUTSIDE);
        due.is("support(10)", x.support(10), OUTSIDE);
        due.is("support(-9)", x.support(-9), OUTSIDE);
        due.is("support(least)", x.support(LEAST), OUTSIDE);
        due.is("support(most)", x.support(MOST), OUTSIDE);
        due.is("count(2)", x.count(2), 1);
    }

    private void supportThatItIs() {
        due.part("8: NOT: it is");
        CubeClosures x = new CubeClosures();
        for (int s = 1; s <= 9; s++) {
            due.holds("support(" + s + ")", s == 1 || x.support(s) == s - 1);
            due.is("support(" + s + ") that it is", x.support(s), NOT);
        }
        due.is("count(7), without those that were refused", x.count(7), 8);
    }

    private void undoOfEach() {
        due.part("9: The latest add(), remove(), support() is undone");
        CubeClosures x = Cubes.four();
        x.remove(0);
        x.support(9);
        x.add(32, 99);
        due.is("undo() of add()", x.undo(), 6);
        due.is("count(1)", x.count(1), 3);
        due.is("entry(3, 0)", x.entry(3, 0), UNKNOWN);
        due.is("undo() of support()", x.undo(), 5);
        due.is("count(2)", x.count(2), 1);
        due.is("undo() of remove()", x.undo(), 4);
        due.is("count(1)", x.count(1), 4);
        due.is("entry(0, 0)", x.entry(0, 0), 8);
        due.is("entry(0, 1)", x.entry(0, 1), 1005);
        due.is("entry(1, 1)", x.entry(1, 1), 901);
        due.is("cell(8, 1)", x.cell(8, 1), 10006);
    }

    private void undoOfWhatWasAskedFor() {
        due.part("9: is undone, in what was asked for before, too");
        CubeClosures x = Cubes.four();
        due.is("count(3)", x.count(3), 6);
        due.is("undo() of add()", x.undo(), 3);
        due.is("count(3) of three", x.count(3), 6);
        due.is("cell(8, 0) of three", x.cell(8, 0), 1);
        x.remove(1);
        due.is("count(3) of two", x.count(3), 3);
        due.is("undo() of remove()", x.undo(), 3);
        due.is("count(3) of three again", x.count(3), 6);
        due.is("cell(9, 1)", x.cell(9, 1), 9901);
        x.support(2);
        due.is("count(3) by 2", x.count(3), 3);
        due.is("undo() of support()", x.undo(), 3);
        due.is("count(3) by 1", x.count(3), 6);
    }

    private void undoOfTheLastEight() {
        due.part("9: (the last 8 can be): how many can be undone yet. NOT: none");
        for (int changes = 0; changes <= 20; changes++) {
            CubeClosures x = Cubes.told("table 1");
            for (int i = 0; i < changes; i++) {
                x.add(1, i);
                due.is("count(7)", x.count(7), Math.min(i + 1, 8));
            }
            int can = Math.min(changes, 8);
            for (int left = can - 1; left >= 0; left--) {
                due.is("undo()", x.undo(), left);
                due.is("count(1)", x.count(1), changes - can + left);
            }
            due.is("undo() of none behind " + changes, x.undo(), NOT);
            due.is("count(1)", x.count(1), changes - can);
        }
    }

    private void undoAroundTheRing() {
        due.part("9: the last 8, wherever they begin");
        for (int ahead = 0; ahead < 9; ahead++) {
            CubeClosures x = Cubes.alike(20);
            for (int i = 0; i < ahead; i++) {
                x.add(1, 50 + i);
            }
            x.add(1, 77);
            x.remove(3);
            x.support(4);
            x.remove(0);
            x.remove(18);
            x.support(2);
            x.add(1, 88);
            x.remove(9);
            due.is("count(7)", x.count(7), 8);
            for (int left = 7; left >= 0; left--) {
                due.is("undo()", x.undo(), left);
            }
            due.is("undo() of none", x.undo(), NOT);
            due.is("count(1)", x.count(1), 20 + ahead);
            due.is("count(2)", x.count(2), 1);
            for (int i = 0; i < 20 + ahead; i++) {
                due.is("entry(" + i + ", 1)", x.entry(i, 1), i < 20 ? 1000 + i : 1030 + i);
            }
        }
    }

    private void undoOfRefusedCalls() {
        due.part("9: what was refused is not undone");
        CubeClosures x = Cubes.four();
        x.add(0, 0);
        x.add(8, 100);
        x.remove(4);
        x.support(1);
        x.support(0);
        due.is("count(7)", x.count(7), 4);
        due.is("undo()", x.undo(), 3);
        due.is("count(1)", x.count(1), 3);
    }

    private void undoInFullTables() {
        due.part("9: of forty, and of none");
        CubeClosures x = Cubes.alike(40);
        x.remove(0);
        x.remove(38);
        due.is("undo()", x.undo(), 7);
        due.is("undo()", x.undo(), 6);
        due.is("count(1)", x.count(1), 40);
        due.is("entry(0, 1)", x.entry(0, 1), 1000);
        due.is("entry(39, 1)", x.entry(39, 1), 1039);
        due.is("cell(0, 0)", x.cell(0, 0), 40);
        CubeClosures one = Cubes.alike(1);
        due.is("undo()", one.undo(), 0);
        due.is("count(1)", one.count(1), 0);
        due.is("count(3)", one.count(3), 0);
    }

    private void undoOfNothingElse() {
        due.part("9: keep(), rows and letters are not undone");
        CubeClosures x = Cubes.four();
        x.keep(0);
        x.write('r');
        x.row(0, 3);
        due.is("count(7)", x.count(7), 4);
        due.is("undo()", x.undo(), 3);
        due.is("count(8)", x.count(8), 1);
        due.is("count(6)", x.count(6), 3);
        due.is("back(0)", x.back(0), 4);
    }

    // ---- 10 to 12

    private void keepOfEach() {
        due.part("10: (k 0, 1). UNKNOWN: no such k");
        CubeClosures x = Cubes.four();
        due.is("keep(-1)", x.keep(-1), UNKNOWN);
        due.is("keep(2)", x.keep(2), UNKNOWN);
        due.is("keep(least)", x.keep(LEAST), UNKNOWN);
        due.is("keep(most)", x.keep(MOST), UNKNOWN);
        due.is("back(0)", x.back(0), NOT);
        due.is("back(1)", x.back(1), NOT);
        due.is("keep(0)", x.keep(0), 4);
        due.is("back(1)", x.back(1), NOT);
        due.is("keep(1)", x.keep(1), 4);
        due.is("back(1)", x.back(1), 4);
    }

    private void keepOfNoneAndOfForty() {
        due.part("10: how many ENTRIES (none, forty)");
        CubeClosures x = told("table 1");
        due.is("keep(0) of none", x.keep(0), 0);
        for (int i = 0; i < 40; i++) {
            x.add(1, i);
        }
        due.is("keep(1) of forty", x.keep(1), 40);
        due.is("back(0)", x.back(0), 0);
        due.is("count(1)", x.count(1), 0);
        due.is("count(3)", x.count(3), 0);
        due.is("back(1)", x.back(1), 40);
        due.is("entry(39, 1)", x.entry(39, 1), 1039);
        due.is("add(1, 0)", x.add(1, 0), FULL);
    }

    private void keepWhatWasKept() {
        due.part("10: as they are now are kept, whatever comes");
        CubeClosures x = Cubes.four();
        x.support(2);
        x.keep(0);
        x.remove(0);
        x.add(32, 1);
        x.support(5);
        due.is("keep(1)", x.keep(1), 4);
        x.undo();
        due.is("back(0)", x.back(0), 4);
        due.is("count(2)", x.count(2), 2);
        due.is("entry(0, 1)", x.entry(0, 1), 1005);
        due.is("entry(3, 0)", x.entry(3, 0), 8);
        due.is("back(1)", x.back(1), 4);
        due.is("count(2)", x.count(2), 5);
        due.is("entry(3, 0)", x.entry(3, 0), 32);
        x.remove(3);
        due.is("keep(1) once more", x.keep(1), 3);
        due.is("back(0)", x.back(0), 4);
        due.is("back(1)", x.back(1), 3);
    }

    private void backAsItWas() {
        due.part("11: It is as it was kept: how many ENTRIES. UNKNOWN; NOT");
        CubeClosures x = Cubes.four();
        due.is("back(-1)", x.back(-1), UNKNOWN);
        due.is("back(2)", x.back(2), UNKNOWN);
        due.is("back(least)", x.back(LEAST), UNKNOWN);
        due.is("back(most)", x.back(MOST), UNKNOWN);
        due.is("back(0)", x.back(0), NOT);
        x.keep(0);
        x.add(32, 9);
        due.is("count(3) before", x.count(3), 7);
        due.is("back(0)", x.back(0), 4);
        due.is("count(3)", x.count(3), 6);
        due.is("cell(32, 0)", x.cell(32, 0), 0);
    }

    private void backAgain() {
        due.part("11: what is kept stays kept");
        CubeClosures x = Cubes.four();
        x.keep(1);
        due.is("back(1)", x.back(1), 4);
        x.remove(0);
        due.is("back(1) again", x.back(1), 4);
        due.is("entry(0, 1)", x.entry(0, 1), 1005);
    }

    private void backUndone() {
        due.part("11: nothing can be undone");
        CubeClosures x = Cubes.four();
        x.keep(0);
        due.is("count(7) before", x.count(7), 4);
        x.back(0);
        due.is("count(7)", x.count(7), 0);
        due.is("undo()", x.undo(), NOT);
        x.support(3);
        due.is("undo() of what came behind", x.undo(), 0);
        due.is("undo()", x.undo(), NOT);
        due.is("count(1)", x.count(1), 4);
    }

    private void backSinceTheLastText() {
        due.part("11: NOT: nothing was kept since the last text");
        CubeClosures x = Cubes.four();
        x.keep(0);
        Cubes.tell(x, "support");
        due.is("read() that is refused", x.read(), NOT);
        due.is("back(0) behind it", x.back(0), 4);
        Cubes.tell(x, " 2");
        due.is("read()", x.read(), 1);
        due.is("back(0) behind it", x.back(0), NOT);
        due.is("count(1) stays", x.count(1), 4);
        due.is("count(2) stays", x.count(2), 2);
        x.keep(0);
        due.is("back(0) since", x.back(0), 4);
    }

    private void entryOfEach() {
        due.part("12: the CODE (what 0), the MEASURE and 1000 (1). UNKNOWN; OUTSIDE");
        CubeClosures x = told("table 6 6 6 6");
        x.add(400, -99);
        x.add(2400, 99);
        due.is("entry(0, 0)", x.entry(0, 0), 400);
        due.is("entry(0, 1)", x.entry(0, 1), 901);
        due.is("entry(1, 0)", x.entry(1, 0), 2400);
        due.is("entry(1, 1)", x.entry(1, 1), 1099);
        due.is("entry(2, 0)", x.entry(2, 0), UNKNOWN);
        due.is("entry(-1, 1)", x.entry(-1, 1), UNKNOWN);
        due.is("entry(0, 2)", x.entry(0, 2), OUTSIDE);
        due.is("entry(0, -1)", x.entry(0, -1), OUTSIDE);
        due.is("entry(2, 2)", x.entry(2, 2), UNKNOWN);
    }

    // ---- 13 to 16

    private void cellOfEach() {
        due.part("13: COUNT (what 0); and 10000 more: SUM (1), LEAST (2), GREATEST (3). OUTSIDE");
        CubeClosures x = Cubes.four();
        int[] dues = {4, 9914, 9901, 10007};
        for (int what = 0; what < 4; what++) {
            due.is("cell(0, " + what + ")", x.cell(0, what), dues[what]);
        }
        int[] duesOfSome = {2, 10006, 10001, 10005};
        for (int what = 0; what < 4; what++) {
            due.is("cell(8, " + what + ")", x.cell(8, what), duesOfSome[what]);
        }
        due.is("cell(0, 4)", x.cell(0, 4), OUTSIDE);
        due.is("cell(0, -1)", x.cell(0, -1), OUTSIDE);
        due.is("cell(5, 4)", x.cell(5, 4), OUTSIDE);
        due.is("cell(32, 4) without a cover", x.cell(32, 4), OUTSIDE);
        due.is("cell(32, 0) without a cover", x.cell(32, 0), 0);
        due.is("cell(32, 1) without a cover", x.cell(32, 1), 10000);
        due.is("cell(32, 2) without a cover", x.cell(32, 2), NONE);
        due.is("cell(32, 3) without a cover", x.cell(32, 3), NONE);
    }

    private void cellAtTheMostAndTheLeast() {
        due.part("13: of forty ENTRIES of -99, of 99");
        for (int measure = -99; measure <= 99; measure += 198) {
            CubeClosures x = told("table 6 6 6 6");
            for (int i = 0; i < 40; i++) {
                x.add(2400, measure);
            }
            due.is("cell(2400, 0)", x.cell(2400, 0), 40);
            due.is("cell(2400, 1)", x.cell(2400, 1), 10000 + 40 * measure);
            due.is("cell(0, 2)", x.cell(0, 2), 10000 + measure);
            due.is("cell(0, 3)", x.cell(0, 3), 10000 + measure);
            due.is("ask(0, 1)", x.ask(0, 1), 10000 + 40 * measure);
        }
    }

    private void closureOfNone() {
        due.part("14: NONE: the COVER is empty. OUTSIDE");
        CubeClosures x = told("table 6 6 6 6;row 5 5 5 5 1;row 5 5 5 4 1");
        due.is("closure(0)", x.closure(0), 2394);
        due.is("closure(2400)", x.closure(2400), 2400);
        due.is("closure(6)", x.closure(6), 2400);
        due.is("closure(4)", x.closure(4), NONE);
        due.is("closure(2058 + 4)", x.closure(2058 + 4), NONE);
        due.is("closure(2401)", x.closure(2401), OUTSIDE);
        due.is("closure(-1)", x.closure(-1), OUTSIDE);
        x.support(9);
        due.is("closure(0), too few for the cube", x.closure(0), 2394);
        due.is("closure(0) of none", new CubeClosures().closure(0), NONE);
    }

    private void keptOfEach() {
        due.part("15: The k-th CELL (0 on) of THE CUBE");
        CubeClosures x = Cubes.four();
        int[] codes = {0, 2, 7, 8, 9, 16};
        for (int k = 0; k < codes.length; k++) {
            due.is("kept(" + k + ")", x.kept(k), codes[k]);
        }
        due.is("kept(6)", x.kept(6), NONE);
        due.is("kept(7)", x.kept(7), NONE);
        due.is("kept(most)", x.kept(MOST), NONE);
    }

    private void keptOfNone() {
        due.part("15: NONE: there is none. OUTSIDE: k below 0");
        CubeClosures x = new CubeClosures();
        due.is("kept(0)", x.kept(0), NONE);
        due.is("kept(-1)", x.kept(-1), OUTSIDE);
        due.is("kept(least)", x.kept(LEAST), OUTSIDE);
        x.add(8, 1);
        due.is("kept(0)", x.kept(0), 8);
        x.support(2);
        due.is("kept(0) by one too few", x.kept(0), NONE);
    }

    private void askBySupport() {
        due.part("16: NONE: THE CUBE has it not");
        CubeClosures x = Cubes.four();
        due.is("ask(32, 0) without a cover", x.ask(32, 0), NONE);
        due.is("ask(32, 1) without a cover", x.ask(32, 1), NONE);
        x.support(2);
        due.is("ask(1, 0) by just enough", x.ask(1, 0), 2);
        due.is("ask(14, 1) by one too few", x.ask(14, 1), NONE);
        x.support(3);
        due.is("ask(1, 0) by one too few", x.ask(1, 0), NONE);
        due.is("ask(7, 1) by just enough", x.ask(7, 1), 9907);
        due.is("ask(0, 0) of none", new CubeClosures().ask(0, 0), NONE);
    }

    private void askOfEach() {
        due.part("16: COUNT (what 0), SUM (1). OUTSIDE");
        CubeClosures x = Cubes.four();
        due.is("ask(0, 0)", x.ask(0, 0), 4);
        due.is("ask(0, 1)", x.ask(0, 1), 9914);
        due.is("ask(0, 2)", x.ask(0, 2), OUTSIDE);
        due.is("ask(0, 3)", x.ask(0, 3), OUTSIDE);
        due.is("ask(0, -1)", x.ask(0, -1), OUTSIDE);
        due.is("ask(32, 2) without a cover", x.ask(32, 2), OUTSIDE);
        due.is("ask(33, 0)", x.ask(33, 0), OUTSIDE);
        due.is("ask(-1, 0)", x.ask(-1, 0), OUTSIDE);
    }

    // ---- 17 to 23

    private void partOfEach() {
        due.part("17: WORK (what 0), VISITS (1). OUTSIDE: it is no ORDER");
        CubeClosures x = told("row 0 0 1;row 0 1 1;support 2");
        due.is("part(1, 0)", x.part(1, 0), 6);
        due.is("part(1, 1)", x.part(1, 1), 1);
        due.is("part(1, 2)", x.part(1, 2), OUTSIDE);
        due.is("part(1, -1)", x.part(1, -1), OUTSIDE);
        due.is("part(0, 0)", x.part(0, 0), OUTSIDE);
        due.is("part(2, 0)", x.part(2, 0), OUTSIDE);
        due.is("part(11, 1)", x.part(11, 1), OUTSIDE);
        due.is("part(12, 0)", x.part(12, 0), OUTSIDE);
        due.is("part(101, 0)", x.part(101, 0), OUTSIDE);
        due.is("part(-1, 0)", x.part(-1, 0), OUTSIDE);
    }

    private void bestOfEach() {
        due.part("18: the ORDER (what 0), its WORK (1). OUTSIDE");
        CubeClosures x = told("row 0 0 1;row 0 1 1;support 2");
        due.is("best(0)", x.best(0), 10);
        due.is("best(1)", x.best(1), 4);
        due.is("best(2)", x.best(2), OUTSIDE);
        due.is("best(-1)", x.best(-1), OUTSIDE);
        due.is("best(least)", x.best(LEAST), OUTSIDE);
        due.is("best(0) of one dimension", told("table 1;row 0 1").best(0), 0);
        due.is("best(1) of one dimension", told("table 1;row 0 1").best(1), 1);
    }

    private void moreOfEach() {
        due.part("19: CELLS (what 0), new ones (1). OUTSIDE: a CODE with ALL, too");
        CubeClosures x = Cubes.four();
        due.is("more(15, 0)", x.more(15, 0), 9);
        due.is("more(15, 1)", x.more(15, 1), 3);
        due.is("more(15, 2)", x.more(15, 2), OUTSIDE);
        due.is("more(15, -1)", x.more(15, -1), OUTSIDE);
        int[] withAll = {0, 1, 4, 7, 28};
        for (int code : withAll) {
            due.is("more(" + code + ", 0)", x.more(code, 0), OUTSIDE);
            due.is("more(" + code + ", 1)", x.more(code, 1), OUTSIDE);
        }
        due.is("more(33, 0)", x.more(33, 0), OUTSIDE);
        due.is("more(49 + 8, 0)", x.more(49 + 8, 0), OUTSIDE);
        due.is("more(-8, 0)", x.more(-8, 0), OUTSIDE);
    }

    private void moreOfTheCellOfAll() {
        due.part("19: new ones (1), the CELL of ALL among them");
        CubeClosures x = told("row 0 0 1");
        due.is("more(8, 0), alike", x.more(8, 0), 1);
        due.is("more(8, 1), alike", x.more(8, 1), 0);
        due.is("more(9, 0), alike in one", x.more(9, 0), 3);
        due.is("more(9, 1), alike in one", x.more(9, 1), 2);
        due.is("more(32, 0), alike in none", x.more(32, 0), 3);
        due.is("more(32, 1), alike in none", x.more(32, 1), 2);
        x.support(2);
        due.is("more(32, 0) by 2", x.more(32, 0), 1);
        due.is("more(32, 1) by 2", x.more(32, 1), 1);
    }

    private void moreWhenFull() {
        due.part("19: FULL: 40 ENTRIES");
        CubeClosures x = Cubes.alike(40);
        due.is("more(1, 0)", x.more(1, 0), FULL);
        due.is("more(1, 1)", x.more(1, 1), FULL);
        x.remove(5);
        due.is("more(1, 0) of thirty-nine", x.more(1, 0), 1);
        due.is("more(1, 1) of thirty-nine", x.more(1, 1), 0);
    }

    private void lessOfEach() {
        due.part("20: CELLS (what 0), lost ones (1). UNKNOWN; OUTSIDE");
        CubeClosures x = Cubes.four();
        due.is("less(3, 0), the last", x.less(3, 0), 6);
        due.is("less(3, 1), the last", x.less(3, 1), 0);
        due.is("less(2, 1)", x.less(2, 1), 3);
        due.is("less(4, 0)", x.less(4, 0), UNKNOWN);
        due.is("less(-1, 0)", x.less(-1, 0), UNKNOWN);
        due.is("less(64, 0)", x.less(64, 0), UNKNOWN);
        due.is("less(0, 2)", x.less(0, 2), OUTSIDE);
        due.is("less(0, -1)", x.less(0, -1), OUTSIDE);
        due.is("less(0, 0) of none", new CubeClosures().less(0, 0), UNKNOWN);
    }

    private void capOfEach() {
        due.part("21: OUTSIDE");
        CubeClosures x = Cubes.four();
        due.is("cap(-1)", x.cap(-1), OUTSIDE);
        due.is("cap(0)", x.cap(0), 5);
        due.is("cap(2400)", x.cap(2400), 1);
        due.is("cap(2401)", x.cap(2401), OUTSIDE);
        due.is("cap(least)", x.cap(LEAST), OUTSIDE);
        due.is("cap(most)", x.cap(MOST), OUTSIDE);
        due.is("cap(0) of forty", Cubes.alike(40).cap(0), 41);
    }

    private void keyOfNone() {
        due.part("22: KEY, by bits; NONE");
        due.is("key() of none", new CubeClosures().key(), 0);
        due.is("key() of two alike", told("row 0 0 1;row 0 0 1").key(), NONE);
        due.is("key() of two alike but for the measure", told("row 0 0 1;row 0 0 2").key(), NONE);
        due.is("key() of the fourth", told("table 2 2 2 2;row 0 0 0 0 1;row 0 0 0 1 1").key(), 8);
    }

    private void ruleOfEach() {
        due.part("23: RULE: 1, 0. OUTSIDE: the set (bits), the DIMENSION");
        for (int d = 1; d <= 4; d++) {
            CubeClosures x = told("table" + " 2".repeat(d) + ";row" + " 0".repeat(d) + " 1;row" + " 1".repeat(d) + " 1");
            due.is("rule(0, 0)", x.rule(0, 0), 0);
            due.is("rule(" + ((1 << d) - 1) + ", " + (d - 1) + ")", x.rule((1 << d) - 1, d - 1), 1);
            due.is("rule(" + (1 << d) + ", 0)", x.rule(1 << d, 0), OUTSIDE);
            due.is("rule(-1, 0)", x.rule(-1, 0), OUTSIDE);
            due.is("rule(0, " + d + ")", x.rule(0, d), OUTSIDE);
            due.is("rule(0, -1)", x.rule(0, -1), OUTSIDE);
            due.is("rule(least, 0)", x.rule(LEAST, 0), OUTSIDE);
            due.is("rule(0, 32)", x.rule(0, 32), OUTSIDE);
        }
    }

    // ---- 24 to 26

    private void rowOfNoughts() {
        due.part("24: A ROW is a new one of n noughts: n");
        CubeClosures x = new CubeClosures();
        for (int n = 0; n <= 12; n++) {
            int row = n % 3;
            due.is("row(" + row + ", " + n + ")", x.row(row, n), n);
            due.is("sum(" + row + ")", x.sum(row), n);
            due.is("asked()", x.asked(), 0);
            due.is("set(" + row + ", " + n + ", 1)", x.set(row, n, 1), INDEX);
            for (int i = 0; i < n; i++) {
                x.set(row, i, -1);
            }
        }
    }

    private void rowOfTooMany() {
        due.part("24: UNKNOWN; OUTSIDE (n above 12)");
        CubeClosures x = new CubeClosures();
        due.is("row(0, 12)", x.row(0, 12), 12);
        due.is("row(0, 13)", x.row(0, 13), OUTSIDE);
        due.is("row(0, most)", x.row(0, MOST), OUTSIDE);
        due.is("row(3, 12)", x.row(3, 12), UNKNOWN);
        due.is("row(-1, 12)", x.row(-1, 12), UNKNOWN);
        due.is("count(6)", x.count(6), 12);
    }

    private void rowOfFewerThanNone() {
        due.part("24: SIZE (fewer than none)");
        CubeClosures x = new CubeClosures();
        due.is("row(0, -1)", x.row(0, -1), SIZE);
        due.is("row(0, -13)", x.row(0, -13), SIZE);
        due.is("row(0, least)", x.row(0, LEAST), SIZE);
        due.is("sum(0), still missing", x.sum(0), NULL);
        x.row(0, 2);
        due.is("row(0, -1)", x.row(0, -1), SIZE);
        due.is("sum(0), still there", x.sum(0), 2);
    }

    private void rowAnew() {
        due.part("24: a new one, whatever was there");
        CubeClosures x = new CubeClosures();
        int[] lengths = {12, 12, 3, 12, 0, 12};
        for (int n : lengths) {
            due.is("row(1, " + n + ")", x.row(1, n), n);
            for (int i = 0; i < n; i++) {
                x.bits(1, i);
                due.is("bits of place " + i, x.asked(), 0);
                x.set(1, i, i + 1);
            }
        }
        x.drop(1);
        x.row(1, 12);
        x.sum(1);
        due.is("asked() behind drop()", x.asked(), 0);
        x.set(1, 0, 5);
        x.row(0, 12);
        x.sum(1);
        due.is("asked() of the row that stays", x.asked(), 5);
    }

    private void setOfEachPlace() {
        due.part("25: Place i of a ROW is v: 1. UNKNOWN; NULL; INDEX");
        CubeClosures x = new CubeClosures();
        due.is("set(0, 0, 1)", x.set(0, 0, 1), NULL);
        x.row(0, 12);
        for (int i = 0; i < 12; i++) {
            due.is("set(0, " + i + ", 1)", x.set(0, i, 1 << i), 1);
        }
        due.is("set(0, 12, 1)", x.set(0, 12, 1), INDEX);
        due.is("set(0, -1, 1)", x.set(0, -1, 1), INDEX);
        due.is("set(0, least, 1)", x.set(0, LEAST, 1), INDEX);
        due.is("set(0, most, 1)", x.set(0, MOST, 1), INDEX);
        x.sum(0);
        due.is("asked()", x.asked(), 4095);
        x.row(1, 1);
        due.is("set(1, 0, 1)", x.set(1, 0, 1), 1);
        due.is("set(1, 1, 1)", x.set(1, 1, 1), INDEX);
        due.is("set(3, 0, 1)", x.set(3, 0, 1), UNKNOWN);
        due.is("set(-1, 0, 1)", x.set(-1, 0, 1), UNKNOWN);
    }

    private void setOfEachNumber() {
        due.part("25: Place i of a ROW is v, the least and the most");
        CubeClosures x = new CubeClosures();
        x.row(2, 1);
        for (int v : new int[] {LEAST, LEAST + 1, -1, 0, 1, MOST}) {
            due.is("set(2, 0, " + v + ")", x.set(2, 0, v), 1);
            x.sum(2);
            due.is("asked()", x.asked(), v);
        }
    }

    /** Row 0 has one place, with this number in it. */
    private static CubeClosures with(long number) {
        CubeClosures x = new CubeClosures();
        x.row(0, 1);
        int high = (int) (number >> 32);
        long low = number & 0xffffffffL;
        x.set(0, 0, high);
        x.work(0, 0, 2, 1 << 16);
        x.work(0, 0, 2, 1 << 16);
        x.work(0, 0, 0, (int) (low / 2));
        x.work(0, 0, 0, (int) (low - low / 2 - (low == 0xffffffffL ? 1 : 0)));
        if (low == 0xffffffffL) {
            x.work(0, 0, 0, 1);
        }
        return x;
    }

    private void workIs(long number, int way, int v, long want) {
        CubeClosures x = with(number);
        due.is("the number", x.asked(), number);
        due.is(number + " by work(0, 0, " + way + ", " + v + ")", x.work(0, 0, way, v), 1);
        due.is("asked() behind it", x.asked(), want);
        due.is("sum(0)", x.sum(0), 1);
        due.is("asked() by sum(0)", x.asked(), want);
    }

    private void workIsOver(long number, int way, int v) {
        CubeClosures x = with(number);
        due.is(number + " by work(0, 0, " + way + ", " + v + ")", x.work(0, 0, way, v), OVER);
        due.is("asked() stays", x.asked(), number);
        x.sum(0);
        due.is("the number stays", x.asked(), number);
    }

    private void workOfEachWay() {
        due.part("26: v is added to place i (way 0), taken from it (1), it is multiplied by v (2). OUTSIDE: way");
        workIs(7, 0, 5, 12);
        workIs(7, 1, 5, 2);
        workIs(7, 2, 5, 35);
        CubeClosures x = with(7);
        due.is("work(0, 0, -1, 5)", x.work(0, 0, -1, 5), OUTSIDE);
        due.is("work(0, 0, 3, 5)", x.work(0, 0, 3, 5), OUTSIDE);
        due.is("work(0, 1, 0, 5)", x.work(0, 1, 0, 5), INDEX);
        due.is("work(0, -1, 0, 5)", x.work(0, -1, 0, 5), INDEX);
        due.is("work(1, 0, 0, 5)", x.work(1, 0, 0, 5), NULL);
        due.is("work(3, 0, 0, 5)", x.work(3, 0, 0, 5), UNKNOWN);
        due.is("work(-1, 0, 0, 5)", x.work(-1, 0, 0, 5), UNKNOWN);
        due.is("asked()", x.asked(), 7);
    }

    private void workOverByAdding() {
        due.part("26: OVER (a number that a long cannot hold), by adding");
        workIs(Long.MAX_VALUE - 1, 0, 1, Long.MAX_VALUE);
        workIsOver(Long.MAX_VALUE, 0, 1);
        workIs(Long.MAX_VALUE, 0, 0, Long.MAX_VALUE);
        workIs(Long.MAX_VALUE, 0, -1, Long.MAX_VALUE - 1);
        workIs(Long.MAX_VALUE - MOST, 0, MOST, Long.MAX_VALUE);
        workIsOver(Long.MAX_VALUE - MOST + 1, 0, MOST);
        workIs(Long.MIN_VALUE + 1, 0, -1, Long.MIN_VALUE);
        workIsOver(Long.MIN_VALUE, 0, -1);
        workIs(Long.MIN_VALUE - LEAST, 0, LEAST, Long.MIN_VALUE);
        workIsOver(Long.MIN_VALUE - LEAST - 1, 0, LEAST);
    }

    private void workOverByTaking() {
        due.part("26: OVER (a number that a long cannot hold), by taking");
        workIs(Long.MIN_VALUE + 1, 1, 1, Long.MIN_VALUE);
        workIsOver(Long.MIN_VALUE, 1, 1);
        workIs(Long.MIN_VALUE, 1, 0, Long.MIN_VALUE);
        workIs(Long.MIN_VALUE, 1, -1, Long.MIN_VALUE + 1);
        workIs(Long.MAX_VALUE - 1, 1, -1, Long.MAX_VALUE);
        workIsOver(Long.MAX_VALUE, 1, -1);
        workIs(Long.MAX_VALUE + LEAST, 1, LEAST, Long.MAX_VALUE);
        workIsOver(Long.MAX_VALUE + LEAST + 1, 1, LEAST);
        workIs(-1, 1, LEAST, MOST);
        workIs(0, 1, LEAST, 1L << 31);
    }

    private void workOverByMultiplying() {
        due.part("26: OVER (a number that a long cannot hold), by multiplying");
        workIs(1L << 61, 2, 2, 1L << 62);
        workIsOver(1L << 62, 2, 2);
        workIs(1L << 62, 2, -2, Long.MIN_VALUE);
        workIs(-(1L << 62), 2, 2, Long.MIN_VALUE);
        workIsOver(-(1L << 62), 2, -2);
        workIsOver(-(1L << 62) - 1, 2, 2);
        workIs(1L << 32, 2, LEAST, Long.MIN_VALUE);
        workIsOver(-(1L << 32), 2, LEAST);
        workIsOver((1L << 32) + 1, 2, LEAST);
        workIs(Long.MAX_VALUE / 3, 2, 3, Long.MAX_VALUE / 3 * 3);
        workIsOver(Long.MAX_VALUE / 3 + 1, 2, 3);
        workIsOver(1L << 62, 2, 4);
        workIsOver(Long.MIN_VALUE, 2, 2);
    }

    private void workByOneAndNought() {
        due.part("26: OVER, by multiplying with -1, 0, 1");
        workIsOver(Long.MIN_VALUE, 2, -1);
        workIs(Long.MIN_VALUE, 2, 1, Long.MIN_VALUE);
        workIs(Long.MIN_VALUE, 2, 0, 0);
        workIs(Long.MIN_VALUE + 1, 2, -1, Long.MAX_VALUE);
        workIs(Long.MAX_VALUE, 2, -1, Long.MIN_VALUE + 1);
        workIs(Long.MAX_VALUE, 2, 0, 0);
        workIs(Long.MAX_VALUE, 2, 1, Long.MAX_VALUE);
        workIs(0, 2, LEAST, 0);
        workIs(-1, 2, LEAST, 1L << 31);
    }

    // ---- 27 to 32

    private void bitsOfNoneAndOfAll() {
        due.part("27: How many of the 64 bits of place i are 1, by asked(): 1. UNKNOWN; NULL; INDEX");
        long[] numbers = {0, 1, -1, Long.MAX_VALUE, Long.MIN_VALUE, MOST, LEAST, 1L << 32};
        int[] bits = {0, 1, 64, 63, 1, 31, 33, 1};
        for (int i = 0; i < numbers.length; i++) {
            CubeClosures x = with(numbers[i]);
            due.is("bits(0, 0) of " + numbers[i], x.bits(0, 0), 1);
            due.is("asked()", x.asked(), bits[i]);
        }
        CubeClosures x = with(7);
        due.is("bits(0, 1)", x.bits(0, 1), INDEX);
        due.is("bits(0, -1)", x.bits(0, -1), INDEX);
        due.is("bits(1, 0)", x.bits(1, 0), NULL);
        due.is("bits(3, 0)", x.bits(3, 0), UNKNOWN);
        due.is("bits(-1, 0)", x.bits(-1, 0), UNKNOWN);
        due.is("asked() stays", x.asked(), 7);
    }

    private void sumOfNoPlaces() {
        due.part("28: how many there are (no places). UNKNOWN; NULL");
        CubeClosures x = with(7);
        due.is("sum(1)", x.sum(1), NULL);
        due.is("sum(3)", x.sum(3), UNKNOWN);
        due.is("sum(-1)", x.sum(-1), UNKNOWN);
        due.is("asked() stays", x.asked(), 7);
        x.row(1, 0);
        due.is("sum(1) of no places", x.sum(1), 0);
        due.is("asked()", x.asked(), 0);
    }

    /** Row 0: the least long or the greatest, and two numbers behind it. */
    private static CubeClosures extreme(boolean isLeast, int second, int third) {
        CubeClosures x = new CubeClosures();
        x.row(0, 3);
        x.set(0, 0, LEAST);
        x.work(0, 0, 2, LEAST);
        x.work(0, 0, 2, -2);
        if (!isLeast) {
            x.work(0, 0, 0, 1);
            x.work(0, 0, 2, -1);
        }
        x.set(0, 1, second);
        x.set(0, 2, third);
        return x;
    }

    private void sumOnTheWay() {
        due.part("28: All places of a ROW together, the first one first. OVER");
        due.is("sum(0), over at the second", extreme(true, -1, 1).sum(0), OVER);
        due.is("sum(0), over at the third", extreme(true, 1, -2).sum(0), OVER);
        due.is("sum(0), not over", extreme(true, 1, -1).sum(0), 3);
        due.is("sum(0), over at the second", extreme(false, 1, -1).sum(0), OVER);
        due.is("sum(0), over at the third", extreme(false, -1, 2).sum(0), OVER);
        due.is("sum(0), not over", extreme(false, -1, 1).sum(0), 3);
        CubeClosures x = extreme(false, 1, -1);
        x.bits(0, 0);
        x.sum(0);
        due.is("asked() stays", x.asked(), 63);
    }

    private void sumAtTheBounds() {
        due.part("28: All places of a ROW together, by asked(), of twelve");
        CubeClosures x = new CubeClosures();
        x.row(0, 12);
        for (int i = 0; i < 12; i++) {
            x.set(0, i, MOST);
        }
        due.is("sum(0)", x.sum(0), 12);
        due.is("asked()", x.asked(), 12L * MOST);
        CubeClosures least = extreme(true, 0, 0);
        due.is("sum(0)", least.sum(0), 3);
        due.is("asked()", least.asked(), Long.MIN_VALUE);
        CubeClosures most = extreme(false, 0, 0);
        due.is("sum(0)", most.sum(0), 3);
        due.is("asked()", most.asked(), Long.MAX_VALUE);
    }

    private void loadAtTheBounds() {
        due.part("29: Place i of a ROW is the SUM of a CELL: 1. UNKNOWN; OUTSIDE: the CODE; NULL; INDEX");
        for (int measure = -99; measure <= 99; measure += 198) {
            CubeClosures x = told("table 6 6 6 6");
            for (int i = 0; i < 40; i++) {
                x.add(2400, measure);
            }
            due.is("load(0, 0, 2400)", x.load(0, 0, 2400), NULL);
            x.row(0, 12);
            due.is("load(0, 11, 2400)", x.load(0, 11, 2400), 1);
            due.is("load(0, 0, 0)", x.load(0, 0, 0), 1);
            due.is("load(0, 12, 0)", x.load(0, 12, 0), INDEX);
            due.is("load(0, -1, 0)", x.load(0, -1, 0), INDEX);
            due.is("load(0, 1, 2401)", x.load(0, 1, 2401), OUTSIDE);
            due.is("load(0, 1, -1)", x.load(0, 1, -1), OUTSIDE);
            due.is("load(3, 1, 0)", x.load(3, 1, 0), UNKNOWN);
            due.is("load(-1, 1, 0)", x.load(-1, 1, 0), UNKNOWN);
            x.sum(0);
            due.is("asked()", x.asked(), 2 * 40 * measure);
        }
    }

    private void loadOfNone() {
        due.part("29: the SUM of a CELL, of an empty COVER, and whatever SUPPORT is");
        CubeClosures x = Cubes.four();
        x.support(9);
        x.row(0, 2);
        x.set(0, 0, 7);
        due.is("load(0, 0, 32)", x.load(0, 0, 32), 1);
        due.is("load(0, 1, 9)", x.load(0, 1, 9), 1);
        due.is("asked() is not of load()", x.asked(), 0);
        x.sum(0);
        due.is("asked()", x.asked(), -99);
    }

    private void dropOfNoPlaces() {
        due.part("30: how many places it had. UNKNOWN; NULL");
        CubeClosures x = new CubeClosures();
        due.is("drop(0), missing at first", x.drop(0), NULL);
        x.row(0, 0);
        due.is("drop(0) of no places", x.drop(0), 0);
        due.is("drop(0) again", x.drop(0), NULL);
        x.row(0, 12);
        due.is("drop(0) of twelve", x.drop(0), 12);
        due.is("drop(3)", x.drop(3), UNKNOWN);
        due.is("drop(-1)", x.drop(-1), UNKNOWN);
    }

    private void dropOfEach() {
        due.part("30: A ROW is missing from now on");
        CubeClosures x = new CubeClosures();
        for (int row = 0; row < 3; row++) {
            x.row(row, 4);
        }
        due.is("drop(1)", x.drop(1), 4);
        due.is("set(1, 0, 1)", x.set(1, 0, 1), NULL);
        due.is("work(1, 0, 0, 1)", x.work(1, 0, 0, 1), NULL);
        due.is("bits(1, 0)", x.bits(1, 0), NULL);
        due.is("sum(1)", x.sum(1), NULL);
        due.is("load(1, 0, 0)", x.load(1, 0, 0), NULL);
        due.is("count(6)", x.count(6), 8);
        due.is("sum(0)", x.sum(0), 4);
        due.is("sum(2)", x.sum(2), 4);
        due.is("row(1, 1)", x.row(1, 1), 1);
        due.is("sum(1) from now on", x.sum(1), 1);
    }

    private void askedBefore() {
        due.part("31: What the latest work(), bits(), sum() told; 0 before");
        CubeClosures x = Cubes.four();
        due.is("asked()", x.asked(), 0);
        x.row(0, 1);
        x.set(0, 0, 6);
        x.load(0, 0, 8);
        x.drop(0);
        due.is("asked() before the first", x.asked(), 0);
        x.row(0, 1);
        x.set(0, 0, 6);
        x.bits(0, 0);
        due.is("asked() of bits()", x.asked(), 2);
        due.is("asked() again", x.asked(), 2);
        x.sum(0);
        due.is("asked() of sum()", x.asked(), 6);
        x.work(0, 0, 1, 9);
        due.is("asked() of work()", x.asked(), -3);
    }

    private void askedOfRefusedOnes() {
        due.part("31: that was not refused");
        CubeClosures x = with(7);
        x.work(3, 0, 0, 1);
        x.work(0, 0, 3, 1);
        x.work(1, 0, 0, 1);
        x.work(0, 1, 0, 1);
        due.is("asked() behind work() refused", x.asked(), 7);
        x.bits(3, 0);
        x.bits(1, 0);
        x.bits(0, 1);
        due.is("asked() behind bits() refused", x.asked(), 7);
        x.sum(3);
        x.sum(1);
        due.is("asked() behind sum() refused", x.asked(), 7);
        x.row(0, 3);
        x.drop(0);
        due.is("asked() behind drop()", x.asked(), 7);
    }

    private void countAtFirst() {
        due.part("32: of a new object");
        CubeClosures x = new CubeClosures();
        int[] counts = {2, 0, 1, 0, 0, 44, 0, 0, 0};
        for (int what = 0; what < 9; what++) {
            due.is("count(" + what + ")", x.count(what), counts[what]);
        }
    }

    private void countAtTheMost() {
        due.part("32: at the most");
        CubeClosures x = told("table 6 6 6 6;support 9");
        for (int i = 0; i < 40; i++) {
            x.add(2400, 0);
        }
        for (int row = 0; row < 3; row++) {
            x.row(row, 12);
        }
        Cubes.tell(x, " ".repeat(201));
        int[] counts = {4, 40, 9, 1, 16, 6666, 36, 8, 200};
        for (int what = 0; what < 9; what++) {
            due.is("count(" + what + ")", x.count(what), counts[what]);
        }
    }

    private void countOfEach() {
        due.part("32: 0 .. 8. OUTSIDE");
        CubeClosures x = Cubes.four();
        due.is("count(9)", x.count(9), OUTSIDE);
        due.is("count(-1)", x.count(-1), OUTSIDE);
        due.is("count(least)", x.count(LEAST), OUTSIDE);
        due.is("count(most)", x.count(MOST), OUTSIDE);
        due.is("count(3)", x.count(3), 6);
        due.is("count(4), closed or not", x.count(4), 8);
        x.support(2);
        due.is("count(3) by support", x.count(3), 4);
        due.is("count(4) by support", x.count(4), 5);
        x.support(5);
        due.is("count(3) by too few", x.count(3), 0);
        due.is("count(4) by too few", x.count(4), 0);
        due.is("count(5) of one dimension", told("table 1").count(5), 1);
        due.is("count(5) of four", told("table 1 2 3 6").count(5), 1236);
    }
}
