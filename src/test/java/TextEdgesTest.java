/** THE TEXT: each sentence of the document that names a bound of it has a test of its own. */
public final class TextEdgesTest {
    private static final int NONE = -1, UNKNOWN = -2, NOT = -4, FULL = -5, NULL = -11;

    private final Due due = new Due();

    public static void main(String[] args) {
        TextEdgesTest test = new TextEdgesTest();
        test.letters();
        test.noClause();
        test.semicolonsBetween();
        test.clauses();
        test.theClauseTooMany();
        test.tableOfOneToFour();
        test.tableOfOneToSix();
        test.tableAsAtFirst();
        test.supportOfOneToNine();
        test.rowOfValuesThatThereAre();
        test.rowForEachDimension();
        test.rowOfMeasures();
        test.rowTheFortyFirst();
        test.rowTheFortyFirstByATable();
        test.smallLetters();
        test.wordsThatAreNone();
        test.numbersOfDigits();
        test.blanks();
        test.anyOtherLetter();
        test.whatWasThereStays();
        test.theFirstToken();
        test.theBeginningOfTheToken();
        test.theEndTooSoon();
        test.lettersThatWere();
        test.inTheirOrder();
        test.nothingIsKept();
        test.nothingCanBeUndone();
        test.rowsStay();
        test.due.end();
    }

    private void faultIs(String text, int place) {
        faultIs(new CubeClosures(), text, place);
    }

    /** What fault() tells, and whether read() goes by it; the text is gone then. */
    private void faultIs(CubeClosures x, String text, int place) {
        Cubes.tell(x, text);
        due.is("fault() of '" + text + "'", x.fault(), place);
        if (place == NONE) {
            due.holds("read() of '" + text + "'", x.read() > 0);
            due.is("count(8) behind read()", x.count(8), 0);
        } else {
            due.is("read() of '" + text + "'", x.read(), NOT);
            due.is("erase() of '" + text + "'", x.erase(), text.length());
        }
    }

    // ---- letters and clauses

    private void letters() {
        due.part("THE TEXT is a row of letters, 200 at most");
        CubeClosures x = new CubeClosures();
        String text = "support 3" + " ".repeat(191);
        for (int i = 0; i < 200; i++) {
            due.is("write() of letter " + i, x.write(text.charAt(i)), i + 1);
        }
        due.is("write() of one letter more", x.write(';'), FULL);
        due.is("count(8)", x.count(8), 200);
        due.is("fault(), without the one that was refused", x.fault(), NONE);
        due.is("read()", x.read(), 1);
        due.is("count(2)", x.count(2), 3);
        due.is("write() behind read()", x.write(';'), 1);
        faultIs(" ".repeat(193) + "table 4", NONE);
        faultIs(" ".repeat(192) + "table 4;", 200);
        faultIs(" ".repeat(199) + "x", 199);
        faultIs("x".repeat(200), 0);
        faultIs("support " + "3".repeat(192), 8);
    }

    private void noClause() {
        due.part("CLAUSES with ; between (none is too soon an end)");
        faultIs("", 0);
        faultIs(" ", 1);
        faultIs(" ".repeat(200), 200);
        faultIs(";", 0);
        faultIs(" ;", 1);
    }

    private void semicolonsBetween() {
        due.part("CLAUSES with ; between");
        faultIs("support 2;support 3", NONE);
        faultIs("support 2 ; support 3", NONE);
        faultIs("support 2;;support 3", 10);
        faultIs("support 2; ;support 3", 11);
        faultIs(";support 2", 0);
        faultIs("support 2;", 10);
        faultIs("support 2;  ", 12);
        faultIs("support 2 support 3", 10);
        faultIs("support 2,support 3", 9);
        faultIs("support 2:support 3", 9);
        faultIs("support;2", 7);
    }

    private void clauses() {
        due.part("CLAUSES with ; between, 24 at most");
        for (int many = 1; many <= 24; many++) {
            CubeClosures x = new CubeClosures();
            Cubes.tell(x, "table 1" + ";row 0 1".repeat(many - 1));
            due.is("fault() of " + many, x.fault(), NONE);
            due.is("read() of " + many, x.read(), many);
            due.is("count(1) by " + many, x.count(1), many - 1);
        }
    }

    private void theClauseTooMany() {
        due.part("CLAUSES with ; between, 24 at most: the 25th");
        String most = Cubes.repeated("table 1", 24);
        due.is("letters of 24", most.length(), 191);
        faultIs(most, NONE);
        faultIs(most + "        ;", 199);
        faultIs(most + ";", 191);
        faultIs(most + ";table 1", 191);
        faultIs(most + ";x", 191);
        faultIs(most + "x", 191);
        CubeClosures x = new CubeClosures();
        Cubes.tell(x, Cubes.repeated("table 1", 25));
        due.is("read() of 25", x.read(), NOT);
        due.is("count(5), none of them is done", x.count(5), 44);
        due.is("count(8)", x.count(8), 199);
    }

    // ---- table

    private void tableOfOneToFour() {
        due.part("table: one to four DIMENSIONS");
        faultIs("table", 5);
        faultIs("table;table 1", 5);
        faultIs("table 1", NONE);
        faultIs("table 1 1", NONE);
        faultIs("table 1 1 1", NONE);
        faultIs("table 1 1 1 1", NONE);
        faultIs("table 1 1 1 1 1", 14);
        faultIs("table 1 1 1 1 x", 14);
        faultIs("table 1 1 1 1;table 1 1 1 1 1", 28);
    }

    private void tableOfOneToSix() {
        due.part("table: with so many VALUES, 1 to 6");
        for (int place = 0; place < 4; place++) {
            String before = "table" + " 3".repeat(place);
            int at = before.length() + 1;
            faultIs(before + " 0", at);
            faultIs(before + " 1", NONE);
            faultIs(before + " 6", NONE);
            faultIs(before + " 7", at);
            faultIs(before + " 9", at);
            faultIs(before + " 10", at);
            faultIs(before + " 99", at);
        }
        CubeClosures x = Cubes.told("table 6 1 6 1");
        due.is("count(5)", x.count(5), 6161);
    }

    private void tableAsAtFirst() {
        due.part("table: all else as at first");
        CubeClosures x = Cubes.four();
        x.support(7);
        Cubes.tell(x, "table 4 4");
        due.is("read()", x.read(), 1);
        due.is("count(1)", x.count(1), 0);
        due.is("count(2)", x.count(2), 1);
        due.is("entry(0, 0)", x.entry(0, 0), UNKNOWN);
        due.is("count(3)", x.count(3), 0);
        due.is("cell(0, 0)", x.cell(0, 0), 0);
        Cubes.tell(x, "support 5;row 0 0 1;table 2");
        due.is("read()", x.read(), 3);
        due.is("count(1)", x.count(1), 0);
        due.is("count(2)", x.count(2), 1);
        due.is("count(5)", x.count(5), 2);
    }

    // ---- support

    private void supportOfOneToNine() {
        due.part("support: 1 to 9");
        for (int s = 1; s <= 9; s++) {
            CubeClosures x = Cubes.told("support " + s);
            due.is("count(2)", x.count(2), s);
        }
        faultIs("support 0", 8);
        faultIs("support 00", 8);
        faultIs("support 10", 8);
        faultIs("support 99", 8);
        faultIs("support", 7);
        faultIs("support ", 8);
        faultIs("support 1 1", 10);
        CubeClosures x = new CubeClosures();
        Cubes.tell(x, "support 1");
        due.is("read() of a support that it is", x.read(), 1);
    }

    // ---- row

    private void rowOfValuesThatThereAre() {
        due.part("row: a VALUE, such as there is");
        CubeClosures x = Cubes.told("table 1 6 3 2");
        faultIs(x, "row 0 0 0 0 1", NONE);
        faultIs(x, "row 0 5 2 1 1", NONE);
        faultIs(x, "row 1 5 2 1 1", 4);
        faultIs(x, "row 0 6 2 1 1", 6);
        faultIs(x, "row 0 5 3 1 1", 8);
        faultIs(x, "row 0 5 2 2 1", 10);
        faultIs(x, "row 0 10 2 1 1", 6);
        due.is("count(1)", x.count(1), 2);
        due.is("entry(0, 0)", x.entry(0, 0), Cubes.code(1, 1, 1, 1));
        due.is("entry(1, 0)", x.entry(1, 0), Cubes.code(1, 6, 3, 2));
        faultIs("row 3 3 1", NONE);
        faultIs("row 4 3 1", 4);
        faultIs("row 3 4 1", 6);
        faultIs("table 5 5;row 4 4 1", NONE);
        faultIs("row 3 3 1;table 3 3;row 3 3 1", 24);
    }

    private void rowForEachDimension() {
        due.part("row: a VALUE for each DIMENSION");
        for (int d = 1; d <= 4; d++) {
            CubeClosures x = Cubes.told("table" + " 2".repeat(d));
            String values = "row" + " 1".repeat(d);
            faultIs(x, values, values.length());
            faultIs(x, values + ";", values.length());
            faultIs(x, values + " 1 1", values.length() + 3);
            faultIs(x, values + " 99", NONE);
        }
    }

    private void rowOfMeasures() {
        due.part("row: the MEASURE M, 0 to 99");
        int[] measures = {0, 1, 9, 10, 98, 99};
        for (int measure : measures) {
            CubeClosures x = Cubes.told("row 0 0 " + measure);
            due.is("entry(0, 1)", x.entry(0, 1), 1000 + measure);
        }
        faultIs("row 0 0 100", 8);
        faultIs("row 0 0 -1", 8);
        faultIs("row 0 0 +1", 8);
        faultIs("row 0 0 x", 8);
        faultIs("row 0 0 000", 8);
    }

    private void rowTheFortyFirst() {
        due.part("row: a forty-first cannot stand there (at its word)");
        CubeClosures x = Cubes.alike(39);
        faultIs(x, "row 0 1;row 0 1", 8);
        faultIs(x, "row 0 1; row x", 9);
        faultIs(x, "row 0 1;support 2;row 0 1", 18);
        due.is("count(1) stays", x.count(1), 39);
        faultIs(x, "row 0 1", NONE);
        due.is("count(1)", x.count(1), 40);
        faultIs(x, "row 0 1", 0);
        faultIs(x, "row", 0);
        faultIs(x, "support 3", NONE);
        faultIs(x, "support 3;row 0 1", 10);
        x.remove(17);
        faultIs(x, "row 0 1", NONE);
        due.is("count(1)", x.count(1), 40);
        due.is("entry(39, 1)", x.entry(39, 1), 1001);
    }

    private void rowTheFortyFirstByATable() {
        due.part("row: a forty-first cannot stand there, but behind a table");
        CubeClosures x = Cubes.alike(40);
        faultIs(x, "row 0 1;table 1", 0);
        faultIs(x, "table 1;row 0 1", NONE);
        due.is("count(1)", x.count(1), 1);
        CubeClosures many = Cubes.alike(20);
        faultIs(many, Cubes.repeated("row 0 1", 21), 20 * 8);
        faultIs(many, Cubes.repeated("row 0 1", 20), NONE);
        due.is("count(1)", many.count(1), 40);
    }

    // ---- tokens

    private void smallLetters() {
        due.part("small letters a .. z");
        faultIs("Support 3", 0);
        faultIs("SUPPORT 3", 0);
        faultIs("supporT 3", 0);
        faultIs("support{ 3", 7);
        faultIs("support` 3", 7);
        faultIs("`support 3", 0);
        faultIs("supporta 3", 0);
        faultIs("supportz 3", 0);
        faultIs("asupport 3", 0);
        faultIs("zsupport 3", 0);
        faultIs("table 3 z", 8);
    }

    private void wordsThatAreNone() {
        due.part("each is one of: table V V V V. support S. row X X X X M.");
        faultIs("cell 1", 0);
        faultIs("tabl 3", 0);
        faultIs("tables 3", 0);
        faultIs("rows 0 0 1", 0);
        faultIs("ro 0 0 1", 0);
        faultIs("suppor 3", 0);
        faultIs("tablerow 0 0 1", 0);
        faultIs("tab le 3", 0);
        faultIs("support 2;entry 0 0 1", 10);
        faultIs("table 3.", 7);
    }

    private void numbersOfDigits() {
        due.part("numbers of 1 or 2 digits");
        faultIs("support 9", NONE);
        faultIs("support 09", NONE);
        faultIs("support 009", 8);
        faultIs("table 06 01", NONE);
        faultIs("table 006", 6);
        faultIs("row 00 03 07", NONE);
        faultIs("row 000 03 07", 4);
        faultIs("row 00 003 07", 7);
        faultIs("row 00 03 007", 10);
        faultIs("row 0 3 4294967296", 8);
        faultIs("support 4294967297", 8);
        faultIs("support /", 8);
        faultIs("support :", 8);
    }

    private void blanks() {
        due.part("blanks between");
        faultIs("   support   3   ", NONE);
        faultIs("support 3;    row  1  2  3", NONE);
        faultIs("support3", NONE);
        faultIs("row0 1 2", NONE);
        faultIs("row 012", 4);
        faultIs("row 0 12", 6);
        faultIs("support 1 2", 10);
        faultIs("sup port 3", 0);
        faultIs("support\t3", 7);
        faultIs("support\n3", 7);
        faultIs("support" + (char) 160 + "3", 7);
    }

    private void anyOtherLetter() {
        due.part("a TOKEN (a row of small letters, a row of digits, any other letter)");
        for (int letter = 0; letter <= 255; letter++) {
            CubeClosures x = new CubeClosures();
            Cubes.tell(x, "support 3");
            x.write(letter);
            boolean isDigit = letter >= '0' && letter <= '9';
            int place = letter == ' ' ? NONE : letter == ';' ? 10 : isDigit ? 8 : 9;
            due.is("fault() with letter " + letter + " last", x.fault(), place);
            x.erase();
            x.write(letter);
            Cubes.tell(x, "support 3");
            due.is("fault() with letter " + letter + " first", x.fault(), letter == ' ' ? NONE : 0);
            x.erase();
            Cubes.tell(x, "support ");
            x.write(letter);
            x.write(letter);
            due.is("fault() with letter " + letter + " twice", x.fault(), letter == ' ' ? 10 : 8);
        }
    }

    private void whatWasThereStays() {
        due.part("what was there stays");
        CubeClosures x = Cubes.four();
        x.support(2);
        Cubes.tell(x, "row 3 3 42");
        due.is("read()", x.read(), 1);
        int[] codes = {8, 9, 16, 8, 32};
        int[] measures = {5, -99, 7, 1, 42};
        due.is("count(1)", x.count(1), 5);
        for (int i = 0; i < codes.length; i++) {
            due.is("entry(" + i + ", 0)", x.entry(i, 0), codes[i]);
            due.is("entry(" + i + ", 1)", x.entry(i, 1), 1000 + measures[i]);
        }
        due.is("count(2)", x.count(2), 2);
        Cubes.tell(x, "support 3");
        x.read();
        due.is("count(1) behind support", x.count(1), 5);
        due.is("count(5)", x.count(5), 44);
    }

    // ---- faults

    private void theFirstToken() {
        due.part("A FAULT is at the first TOKEN that cannot stand there");
        faultIs("table 7 8 x", 6);
        faultIs("row 9 9 999", 4);
        faultIs("x;y;z", 0);
        faultIs("support 2;support 0;support 10", 18);
        faultIs("row 0 0 1 1 1 1", 10);
        CubeClosures x = Cubes.told("table 1");
        faultIs(x, "row 0 0 0", 8);
        faultIs(x, "table 2;row 1 1;row 2 1;row 3 1", 20);
    }

    private void theBeginningOfTheToken() {
        due.part("the letter with which the TOKEN begins");
        faultIs("   tables 3", 3);
        faultIs("support   123", 10);
        faultIs("table  3  77", 10);
        faultIs("support 3  xyz", 11);
        faultIs("support 3  ?!", 11);
        faultIs("support 3?!", 9);
    }

    private void theEndTooSoon() {
        due.part("or at the end, if it comes too soon (or the length)");
        faultIs("row", 3);
        faultIs("row   ", 6);
        faultIs("row 0", 5);
        faultIs("row 0 0", 7);
        faultIs("row 0 0  ", 9);
        faultIs("support 2;row 0 0", 17);
        faultIs("support" + " ".repeat(193), 200);
        faultIs(" ".repeat(193) + "support", 200);
    }

    private void lettersThatWere() {
        due.part("THE TEXT is empty: what was written before is not looked at");
        String[][] both = {{"support 12", "support 1"}, {"table 4;;", "table 4"}, {"row 0 0 123", "row 0 0 12"},
            {"table 1 1 1 1 1", "table 1 1 1 1"}};
        for (String[] texts : both) {
            CubeClosures x = new CubeClosures();
            Cubes.tell(x, texts[0]);
            due.is("read() of '" + texts[0] + "'", x.read(), NOT);
            x.erase();
            Cubes.tell(x, texts[1]);
            due.is("fault() of '" + texts[1] + "' behind it", x.fault(), NONE);
            due.is("read() of '" + texts[1] + "' behind it", x.read(), 1);
        }
    }

    // ---- what it does

    private void inTheirOrder() {
        due.part("CLAUSES are done in their order");
        due.is("count(2), the last one tells", Cubes.told("support 3;support 5").count(2), 5);
        due.is("count(2), table last", Cubes.told("support 3;table 2").count(2), 1);
        due.is("count(2), table first", Cubes.told("table 2;support 3").count(2), 3);
        due.is("count(5), the last one tells", Cubes.told("table 2;table 3 4;table 5 6 1").count(5), 561);
        CubeClosures x = Cubes.told("table 2;row 0 1;table 3;row 2 3;row 1 2");
        due.is("count(1)", x.count(1), 2);
        due.is("entry(0, 0)", x.entry(0, 0), 3);
        due.is("entry(1, 1)", x.entry(1, 1), 1002);
    }

    private void nothingIsKept() {
        due.part("Behind them nothing is kept");
        CubeClosures x = Cubes.four();
        x.keep(0);
        x.keep(1);
        Cubes.tell(x, "support 1");
        x.fault();
        due.is("back(0) behind fault() alone", x.back(0), 4);
        due.is("read()", x.read(), 1);
        due.is("back(0)", x.back(0), NOT);
        due.is("back(1)", x.back(1), NOT);
        due.is("keep(1)", x.keep(1), 4);
        due.is("back(1)", x.back(1), 4);
        due.is("back(0)", x.back(0), NOT);
    }

    private void nothingCanBeUndone() {
        due.part("Behind them nothing can be undone");
        CubeClosures x = Cubes.four();
        Cubes.tell(x, "row 0 0 1;support 2");
        due.is("count(7) before", x.count(7), 4);
        due.is("read()", x.read(), 2);
        due.is("count(7)", x.count(7), 0);
        due.is("undo()", x.undo(), NOT);
        due.is("count(1)", x.count(1), 5);
        due.is("add(8, 1)", x.add(8, 1), 6);
        due.is("undo() of what came behind", x.undo(), 0);
        due.is("undo()", x.undo(), NOT);
        due.is("count(2)", x.count(2), 2);
    }

    private void rowsStay() {
        due.part("ROWS stay");
        CubeClosures x = new CubeClosures();
        x.row(0, 12);
        x.row(1, 0);
        x.set(0, 11, -7);
        x.bits(0, 11);
        long told = x.asked();
        Cubes.tell(x, "table 1;row 0 1");
        due.is("read()", x.read(), 2);
        due.is("asked()", x.asked(), told);
        due.is("count(6)", x.count(6), 12);
        due.is("sum(0)", x.sum(0), 12);
        due.is("asked()", x.asked(), -7);
        due.is("sum(1)", x.sum(1), 0);
        due.is("sum(2), still missing", x.sum(2), NULL);
    }
}
