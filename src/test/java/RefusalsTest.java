import java.util.function.Supplier;
import java.util.function.ToLongFunction;

/**
 * What is refused: the first refusal that fits, and nothing changes. Each refused call is made on one of two
 * like objects; then both are looked at in all that they tell, and what can be undone or gone back to as well.
 */
public final class RefusalsTest {
    private static final int UNKNOWN = -2, OUTSIDE = -3, NOT = -4, FULL = -5,
            NULL = -11, INDEX = -12, SIZE = -13, OVER = -14;
    private static final int LEAST = Cubes.LEAST, MOST = Cubes.MOST;
    private static final int[] WRONG_WHATS = {-1, 2, MOST, LEAST};

    private final Due due = new Due();

    public static void main(String[] args) {
        RefusalsTest test = new RefusalsTest();
        test.nothingElseLooksAlike();
        test.refusedOfTheText();
        test.refusedOfEntries();
        test.refusedOfKeeps();
        test.refusedOfCells();
        test.refusedOfPartingAndForetold();
        test.refusedOfRows();
        test.refusedWhenFull();
        test.refusedWhenNew();
        test.unknownFirst();
        test.outsideBeforeNot();
        test.outsideBeforeFull();
        test.outsideBeforeWhatTheMachineFinds();
        test.nullBeforeIndex();
        test.nullAndIndexBeforeOver();
        test.theConstants();
        test.due.end();
    }

    // ---- two like objects

    /** Nothing of it is as at first: what is kept, undone, written, in rows and asked. */
    private static CubeClosures worn() {
        CubeClosures x = Cubes.told("table 3 2 4;support 2;row 0 1 3 10;row 0 1 2 5;row 1 1 3 7");
        x.keep(0);
        for (int i = 0; i < 6; i++) {
            x.add(Cubes.code(1 + i % 3, 1 + i % 2, 1 + i % 4), i - 90);
        }
        x.support(3);
        x.remove(1);
        x.support(1);
        Cubes.tell(x, "row 0 1");
        x.row(1, 3);
        x.set(1, 0, LEAST);
        x.work(1, 0, 2, LEAST);
        x.work(1, 0, 2, -2);
        x.set(1, 1, 12);
        x.set(1, 2, -4);
        x.row(2, 0);
        x.bits(1, 1);
        return x;
    }

    private static CubeClosures full() {
        CubeClosures x = Cubes.alike(40);
        Cubes.tell(x, " ".repeat(200));
        return x;
    }

    /** All that an object tells; it is used up by it. */
    private static String all(CubeClosures x) {
        StringBuilder all = new StringBuilder("asked ").append(x.asked());
        all.append(" fault ").append(x.fault());
        for (int what = 0; what <= 8; what++) {
            all.append(' ').append(x.count(what));
        }
        appendEntries(all, x);
        for (int k = 0; k < 20; k++) {
            all.append(" kept ").append(x.kept(k));
        }
        for (int row = 0; row < 3; row++) {
            all.append(" row ").append(x.sum(row));
            for (int i = 0; i < 3; i++) {
                all.append(' ').append(x.work(row, i, 0, 0)).append(' ').append(x.asked());
            }
        }
        for (int i = 0; i < 9; i++) {
            all.append(" undo ").append(x.undo()).append(' ').append(x.count(1)).append(' ').append(x.count(2));
            all.append(' ').append(x.cell(0, 1));
        }
        appendEntries(all, x);
        for (int k = 0; k < 2; k++) {
            all.append(" back ").append(x.back(k)).append(' ').append(x.count(2)).append(' ').append(x.cell(0, 1));
        }
        return all.toString();
    }

    private static void appendEntries(StringBuilder all, CubeClosures x) {
        for (int entry = 0; entry < x.count(1) && entry < 10; entry++) {
            all.append(" entry ").append(x.entry(entry, 0)).append(' ').append(x.entry(entry, 1));
        }
    }

    private void refused(Supplier<CubeClosures> maker, String call, int want, ToLongFunction<CubeClosures> called) {
        CubeClosures x = maker.get();
        due.is(call, called.applyAsLong(x), want);
        String got = all(x);
        String like = all(maker.get());
        due.holds(call + " changes nothing:\n  " + got + "\n  " + like, got.equals(like));
    }

    /** The one who looks must see each thing that a call could change. */
    private void nothingElseLooksAlike() {
        due.part("the look at all that an object tells");
        differs("write", x -> x.write('x'));
        differs("erase", CubeClosures::erase);
        differs("add", x -> x.add(57, 0));
        differs("remove", x -> x.remove(2));
        differs("support", x -> x.support(2));
        differs("undo", CubeClosures::undo);
        differs("keep", x -> x.keep(0));
        differs("keep of the other", x -> x.keep(1));
        differs("back", x -> x.back(0));
        differs("row", x -> x.row(0, 0));
        differs("set", x -> x.set(1, 1, 13));
        differs("work", x -> x.work(1, 2, 0, 1));
        differs("bits", x -> x.bits(1, 0));
        differs("sum", x -> x.sum(1));
        differs("load", x -> x.load(1, 2, 0));
        differs("drop", x -> x.drop(2));
    }

    private void differs(String call, ToLongFunction<CubeClosures> called) {
        CubeClosures x = worn();
        due.holds(call + " is done", called.applyAsLong(x) >= 0);
        due.holds(call + " is seen", !all(x).equals(all(worn())));
    }

    // ---- nothing changes

    private void refusedOfTheText() {
        due.part("Refused, and nothing changes: what is told");
        for (int letter : new int[] {-1, 256, MOST, LEAST}) {
            refused(RefusalsTest::worn, "write(" + letter + ")", OUTSIDE, x -> x.write(letter));
        }
        refused(RefusalsTest::worn, "read()", NOT, CubeClosures::read);
        Supplier<CubeClosures> late = () -> {
            CubeClosures x = worn();
            x.erase();
            Cubes.tell(x, "support 7;row 0 1 3 10;table 5;row 4 1;row 5 1");
            return x;
        };
        refused(late, "read() of a fault behind clauses", NOT, CubeClosures::read);
        refused(late, "fault()", 43, CubeClosures::fault);
    }

    private void refusedOfEntries() {
        due.part("Refused, and nothing changes: entries");
        for (int code : new int[] {0, 49, 56, 343, 400, -57, LEAST, MOST}) {
            refused(RefusalsTest::worn, "add(" + code + ", 1)", OUTSIDE, x -> x.add(code, 1));
        }
        for (int measure : new int[] {-100, 100, LEAST, MOST}) {
            refused(RefusalsTest::worn, "add(57, " + measure + ")", OUTSIDE, x -> x.add(57, measure));
        }
        for (int entry : new int[] {-1, 8, 40, LEAST, MOST}) {
            refused(RefusalsTest::worn, "remove(" + entry + ")", UNKNOWN, x -> x.remove(entry));
            refused(RefusalsTest::worn, "entry(" + entry + ", 0)", UNKNOWN, x -> x.entry(entry, 0));
            refused(RefusalsTest::worn, "less(" + entry + ", 0)", UNKNOWN, x -> x.less(entry, 0));
        }
        for (int what : WRONG_WHATS) {
            refused(RefusalsTest::worn, "entry(7, " + what + ")", OUTSIDE, x -> x.entry(7, what));
        }
        for (int s : new int[] {0, 10, -1, LEAST, MOST}) {
            refused(RefusalsTest::worn, "support(" + s + ")", OUTSIDE, x -> x.support(s));
        }
        refused(RefusalsTest::worn, "support(1) that it is", NOT, x -> x.support(1));
    }

    private void refusedOfKeeps() {
        due.part("Refused, and nothing changes: keep, back, undo");
        for (int k : new int[] {-1, 2, LEAST, MOST}) {
            refused(RefusalsTest::worn, "keep(" + k + ")", UNKNOWN, x -> x.keep(k));
            refused(RefusalsTest::worn, "back(" + k + ")", UNKNOWN, x -> x.back(k));
        }
        refused(RefusalsTest::worn, "back(1), not kept", NOT, x -> x.back(1));
        Supplier<CubeClosures> undone = () -> {
            CubeClosures x = worn();
            x.back(0);
            return x;
        };
        refused(undone, "undo() of none", NOT, CubeClosures::undo);
    }

    private void refusedOfCells() {
        due.part("Refused, and nothing changes: cells");
        for (int code : new int[] {5, 6, 21, 196, 343, -1, -343, LEAST, MOST}) {
            refused(RefusalsTest::worn, "cell(" + code + ", 0)", OUTSIDE, x -> x.cell(code, 0));
            refused(RefusalsTest::worn, "closure(" + code + ")", OUTSIDE, x -> x.closure(code));
            refused(RefusalsTest::worn, "ask(" + code + ", 0)", OUTSIDE, x -> x.ask(code, 0));
            refused(RefusalsTest::worn, "more(" + code + ", 0)", OUTSIDE, x -> x.more(code, 0));
        }
        for (int what : new int[] {-1, 4, LEAST, MOST}) {
            refused(RefusalsTest::worn, "cell(0, " + what + ")", OUTSIDE, x -> x.cell(0, what));
        }
        for (int what : WRONG_WHATS) {
            refused(RefusalsTest::worn, "ask(0, " + what + ")", OUTSIDE, x -> x.ask(0, what));
        }
        for (int k : new int[] {-1, LEAST}) {
            refused(RefusalsTest::worn, "kept(" + k + ")", OUTSIDE, x -> x.kept(k));
        }
    }

    private void refusedOfPartingAndForetold() {
        due.part("Refused, and nothing changes: parting, foretold");
        for (int order : new int[] {0, 11, 123, 1012, 222, -12, LEAST, MOST}) {
            refused(RefusalsTest::worn, "part(" + order + ", 0)", OUTSIDE, x -> x.part(order, 0));
        }
        for (int what : WRONG_WHATS) {
            refused(RefusalsTest::worn, "part(12, " + what + ")", OUTSIDE, x -> x.part(12, what));
            refused(RefusalsTest::worn, "best(" + what + ")", OUTSIDE, x -> x.best(what));
            refused(RefusalsTest::worn, "more(57, " + what + ")", OUTSIDE, x -> x.more(57, what));
            refused(RefusalsTest::worn, "less(0, " + what + ")", OUTSIDE, x -> x.less(0, what));
        }
        for (int k : new int[] {-1, 2401, LEAST, MOST}) {
            refused(RefusalsTest::worn, "cap(" + k + ")", OUTSIDE, x -> x.cap(k));
        }
        for (int set : new int[] {-1, 8, LEAST, MOST}) {
            refused(RefusalsTest::worn, "rule(" + set + ", 0)", OUTSIDE, x -> x.rule(set, 0));
        }
        for (int dimension : new int[] {-1, 3, 31, 32, LEAST, MOST}) {
            refused(RefusalsTest::worn, "rule(0, " + dimension + ")", OUTSIDE, x -> x.rule(0, dimension));
        }
        for (int what : new int[] {-1, 9, LEAST, MOST}) {
            refused(RefusalsTest::worn, "count(" + what + ")", OUTSIDE, x -> x.count(what));
        }
    }

    private void refusedOfRows() {
        due.part("what the machine finds changes nothing");
        refused(RefusalsTest::worn, "row(1, 13)", OUTSIDE, x -> x.row(1, 13));
        refused(RefusalsTest::worn, "row(1, most)", OUTSIDE, x -> x.row(1, MOST));
        refused(RefusalsTest::worn, "row(1, -1)", SIZE, x -> x.row(1, -1));
        refused(RefusalsTest::worn, "row(0, least)", SIZE, x -> x.row(0, LEAST));
        refused(RefusalsTest::worn, "work(1, 1, 3, 1)", OUTSIDE, x -> x.work(1, 1, 3, 1));
        refused(RefusalsTest::worn, "work(1, 1, -1, 1)", OUTSIDE, x -> x.work(1, 1, -1, 1));
        refused(RefusalsTest::worn, "load(1, 1, 5)", OUTSIDE, x -> x.load(1, 1, 5));
        refused(RefusalsTest::worn, "set(0, 0, 1)", NULL, x -> x.set(0, 0, 1));
        refused(RefusalsTest::worn, "work(0, 0, 0, 1)", NULL, x -> x.work(0, 0, 0, 1));
        refused(RefusalsTest::worn, "bits(0, 0)", NULL, x -> x.bits(0, 0));
        refused(RefusalsTest::worn, "sum(0)", NULL, x -> x.sum(0));
        refused(RefusalsTest::worn, "load(0, 0, 0)", NULL, x -> x.load(0, 0, 0));
        refused(RefusalsTest::worn, "drop(0)", NULL, x -> x.drop(0));
        for (int i : new int[] {-1, 3, 12, LEAST, MOST}) {
            refused(RefusalsTest::worn, "set(1, " + i + ", 1)", INDEX, x -> x.set(1, i, 1));
            refused(RefusalsTest::worn, "work(1, " + i + ", 0, 1)", INDEX, x -> x.work(1, i, 0, 1));
            refused(RefusalsTest::worn, "bits(1, " + i + ")", INDEX, x -> x.bits(1, i));
            refused(RefusalsTest::worn, "load(1, " + i + ", 0)", INDEX, x -> x.load(1, i, 0));
            refused(RefusalsTest::worn, "set(2, " + i + ", 1), of no places", INDEX, x -> x.set(2, i, 1));
        }
        refused(RefusalsTest::worn, "work(1, 0, 0, -1)", OVER, x -> x.work(1, 0, 0, -1));
        refused(RefusalsTest::worn, "work(1, 0, 1, 1)", OVER, x -> x.work(1, 0, 1, 1));
        refused(RefusalsTest::worn, "work(1, 0, 2, -1)", OVER, x -> x.work(1, 0, 2, -1));
        Supplier<CubeClosures> over = () -> {
            CubeClosures x = worn();
            x.set(1, 1, -12);
            return x;
        };
        refused(over, "sum(1)", OVER, x -> x.sum(1));
    }

    private void refusedWhenFull() {
        due.part("FULL, and nothing changes");
        refused(RefusalsTest::full, "write(59)", FULL, x -> x.write(59));
        refused(RefusalsTest::full, "add(1, 0)", FULL, x -> x.add(1, 0));
        refused(RefusalsTest::full, "more(1, 0)", FULL, x -> x.more(1, 0));
        refused(RefusalsTest::full, "more(1, 1)", FULL, x -> x.more(1, 1));
        refused(RefusalsTest::full, "entry(40, 0)", UNKNOWN, x -> x.entry(40, 0));
        refused(RefusalsTest::full, "remove(40)", UNKNOWN, x -> x.remove(40));
        refused(RefusalsTest::full, "less(40, 0)", UNKNOWN, x -> x.less(40, 0));
    }

    private void refusedWhenNew() {
        due.part("Refused, and nothing changes: a new object");
        refused(CubeClosures::new, "undo()", NOT, CubeClosures::undo);
        refused(CubeClosures::new, "read()", NOT, CubeClosures::read);
        refused(CubeClosures::new, "back(0)", NOT, x -> x.back(0));
        refused(CubeClosures::new, "remove(0)", UNKNOWN, x -> x.remove(0));
        refused(CubeClosures::new, "less(0, 0)", UNKNOWN, x -> x.less(0, 0));
        refused(CubeClosures::new, "support(1)", NOT, x -> x.support(1));
        for (int row = 0; row < 3; row++) {
            int one = row;
            refused(CubeClosures::new, "drop(" + row + ")", NULL, x -> x.drop(one));
            refused(CubeClosures::new, "sum(" + row + ")", NULL, x -> x.sum(one));
        }
    }

    // ---- the first that fits

    private void unknownFirst() {
        due.part("UNKNOWN (no such ENTRY, ROW), ahead of all others");
        for (int row : new int[] {-1, 3, LEAST, MOST}) {
            refused(RefusalsTest::worn, "row(" + row + ", 3)", UNKNOWN, x -> x.row(row, 3));
            refused(RefusalsTest::worn, "row(" + row + ", 13)", UNKNOWN, x -> x.row(row, 13));
            refused(RefusalsTest::worn, "row(" + row + ", -1)", UNKNOWN, x -> x.row(row, -1));
            refused(RefusalsTest::worn, "set(" + row + ", -1, 1)", UNKNOWN, x -> x.set(row, -1, 1));
            refused(RefusalsTest::worn, "work(" + row + ", 0, 0, 1)", UNKNOWN, x -> x.work(row, 0, 0, 1));
            refused(RefusalsTest::worn, "work(" + row + ", -1, 3, 1)", UNKNOWN, x -> x.work(row, -1, 3, 1));
            refused(RefusalsTest::worn, "bits(" + row + ", -1)", UNKNOWN, x -> x.bits(row, -1));
            refused(RefusalsTest::worn, "sum(" + row + ")", UNKNOWN, x -> x.sum(row));
            refused(RefusalsTest::worn, "load(" + row + ", 0, 0)", UNKNOWN, x -> x.load(row, 0, 0));
            refused(RefusalsTest::worn, "load(" + row + ", -1, -1)", UNKNOWN, x -> x.load(row, -1, -1));
            refused(RefusalsTest::worn, "drop(" + row + ")", UNKNOWN, x -> x.drop(row));
        }
        for (int entry : new int[] {-1, 8}) {
            refused(RefusalsTest::worn, "entry(" + entry + ", 2)", UNKNOWN, x -> x.entry(entry, 2));
            refused(RefusalsTest::worn, "less(" + entry + ", 2)", UNKNOWN, x -> x.less(entry, 2));
        }
    }

    private void outsideBeforeNot() {
        due.part("UNKNOWN, OUTSIDE ahead of NOT");
        refused(CubeClosures::new, "back(2) when nothing is kept", UNKNOWN, x -> x.back(2));
        refused(CubeClosures::new, "back(-1) when nothing is kept", UNKNOWN, x -> x.back(-1));
        refused(CubeClosures::new, "support(0)", OUTSIDE, x -> x.support(0));
    }

    private void outsideBeforeFull() {
        due.part("OUTSIDE ahead of FULL");
        refused(RefusalsTest::full, "write(256)", OUTSIDE, x -> x.write(256));
        refused(RefusalsTest::full, "write(-1)", OUTSIDE, x -> x.write(-1));
        refused(RefusalsTest::full, "add(0, 0)", OUTSIDE, x -> x.add(0, 0));
        refused(RefusalsTest::full, "add(2, 0)", OUTSIDE, x -> x.add(2, 0));
        refused(RefusalsTest::full, "add(1, 100)", OUTSIDE, x -> x.add(1, 100));
        refused(RefusalsTest::full, "more(0, 0)", OUTSIDE, x -> x.more(0, 0));
        refused(RefusalsTest::full, "more(2, 0)", OUTSIDE, x -> x.more(2, 0));
        refused(RefusalsTest::full, "more(1, 2)", OUTSIDE, x -> x.more(1, 2));
        refused(RefusalsTest::full, "more(1, -1)", OUTSIDE, x -> x.more(1, -1));
    }

    private void outsideBeforeWhatTheMachineFinds() {
        due.part("OUTSIDE, then what the machine finds");
        refused(RefusalsTest::worn, "row(0, 13)", OUTSIDE, x -> x.row(0, 13));
        refused(RefusalsTest::worn, "work(0, 0, 3, 1) of a missing row", OUTSIDE, x -> x.work(0, 0, 3, 1));
        refused(RefusalsTest::worn, "work(1, 3, 3, 1) of no place", OUTSIDE, x -> x.work(1, 3, 3, 1));
        refused(RefusalsTest::worn, "work(1, 0, -1, 2) of too much", OUTSIDE, x -> x.work(1, 0, -1, 2));
        refused(RefusalsTest::worn, "load(0, 0, 5) of a missing row", OUTSIDE, x -> x.load(0, 0, 5));
        refused(RefusalsTest::worn, "load(1, 3, -1) of no place", OUTSIDE, x -> x.load(1, 3, -1));
    }

    private void nullBeforeIndex() {
        due.part("of several the first in this order: NULL, INDEX");
        for (int i : new int[] {-1, 3, LEAST, MOST}) {
            refused(RefusalsTest::worn, "set(0, " + i + ", 1)", NULL, x -> x.set(0, i, 1));
            refused(RefusalsTest::worn, "work(0, " + i + ", 0, 1)", NULL, x -> x.work(0, i, 0, 1));
            refused(RefusalsTest::worn, "bits(0, " + i + ")", NULL, x -> x.bits(0, i));
            refused(RefusalsTest::worn, "load(0, " + i + ", 0)", NULL, x -> x.load(0, i, 0));
        }
    }

    private void nullAndIndexBeforeOver() {
        due.part("of several the first in this order: NULL, INDEX, OVER");
        Supplier<CubeClosures> dropped = () -> {
            CubeClosures x = worn();
            x.drop(1);
            return x;
        };
        Supplier<CubeClosures> shorter = () -> {
            CubeClosures x = worn();
            x.row(1, 0);
            return x;
        };
        refused(dropped, "work(1, 0, 2, 2) where the least long was", NULL, x -> x.work(1, 0, 2, 2));
        refused(shorter, "work(1, 0, 2, 2) where the least long was", INDEX, x -> x.work(1, 0, 2, 2));
        refused(dropped, "sum(1)", NULL, x -> x.sum(1));
    }

    private void theConstants() {
        due.part("NONE = -1, UNKNOWN = -2, OUTSIDE = -3, NOT = -4, FULL = -5, NULL = -11 .. OVER = -14");
        due.is("NONE", CubeClosures.NONE, -1);
        due.is("UNKNOWN", CubeClosures.UNKNOWN, UNKNOWN);
        due.is("OUTSIDE", CubeClosures.OUTSIDE, OUTSIDE);
        due.is("NOT", CubeClosures.NOT, NOT);
        due.is("FULL", CubeClosures.FULL, FULL);
        due.is("NULL", CubeClosures.NULL, NULL);
        due.is("INDEX", CubeClosures.INDEX, INDEX);
        due.is("SIZE", CubeClosures.SIZE, SIZE);
        due.is("OVER", CubeClosures.OVER, OVER);
    }
}
