import java.util.function.Consumer;

/** The edges that "2 OBJECTS" and promises 6 to 13 name, sentence by sentence. */
public final class DeskEdgesTest {
    private static final Due due = new Due("DeskEdgesTest");
    private static final int NONE = FormMill.NONE, BAD = FormMill.BAD, FULL = FormMill.FULL;
    private static final int NULL = -11, CAST = -12, INDEX = -13, STORE = -15, SIZE = -16;

    public static void main(String[] args) {
        truths();
        wholes();
        moneys();
        letters();
        upToTwelve();
        upToSixRows();
        rowsOfSix();
        itemsAtFirst();
        newEachTime();
        hundredEntries();
        labels();
        signers();
        amounts();
        signedsAreEntries();
        oneEntry();
        sizes();
        deskHolds();
        failuresInOrder();
        tenThousand();
        tenThousandByTries();
        beyondTenThousand();
        due.end();
    }

    private static FormMill office() {
        FormMill mill = Due.with("form; text a 1; figure n = a[0];");
        mill.entry(5, 50, NONE);
        mill.entry(6, 60, 0);
        mill.draft(0);
        return mill;
    }

    /** What is left of a number in an item of a sort. */
    private static void writes(int sort, long v, long want) {
        FormMill mill = office();
        mill.desk(sort, 2);
        due.is("write(1, " + v + ") to sort " + sort, mill.write(1, v), 0);
        mill.give(0, 0);
        due.is("item 1 of sort " + sort + " behind write(1, " + v + ")", mill.item(0, 0, 1), want);
        due.is("item 0", mill.item(0, 0, 0), 0);
    }

    private static void truths() {
        due.promise(9, "Item i of truths (v is not 0)");
        for (long v : new long[] {1, -1, 2, 256, 65536, 1L << 31, 1L << 32, 1L << 63, Long.MAX_VALUE}) {
            writes(0, v, 1);
        }
        writes(0, 0, 0);
    }

    private static void wholes() {
        due.promise(9, "wholes (of 32 bits): the lowest bits");
        long[] v = {0, 1, -1, Integer.MAX_VALUE, Integer.MAX_VALUE + 1L, Integer.MIN_VALUE, Integer.MIN_VALUE - 1L, (1L << 32) - 1, 1L << 32,
            (1L << 32) + 1, Long.MAX_VALUE, Long.MIN_VALUE};
        long[] want = {0, 1, -1, Integer.MAX_VALUE, Integer.MIN_VALUE, Integer.MIN_VALUE, Integer.MAX_VALUE, -1, 0, 1, -1, 0};
        for (int i = 0; i < v.length; i++) {
            writes(1, v[i], want[i]);
        }
    }

    private static void moneys() {
        due.promise(9, "moneys (of 64)");
        for (long v : new long[] {0, 1, -1, 1L << 31, 1L << 32, -(1L << 32), Long.MAX_VALUE, Long.MIN_VALUE}) {
            writes(2, v, v);
        }
    }

    private static void letters() {
        due.promise(9, "letters (of 16, without sign)");
        long[] v = {0, 65, 127, 128, 255, 256, 32767, 32768, 65535, 65536, 65537, -1, -32768, -65536, Long.MIN_VALUE, Long.MAX_VALUE};
        long[] want = {0, 65, 127, 128, 255, 256, 32767, 32768, 65535, 0, 1, 65535, 32768, 0, 0, 65535};
        for (int i = 0; i < v.length; i++) {
            writes(3, v[i], want[i]);
        }
    }

    private static int putAt(FormMill mill, int sort, int i) {
        return sort <= 3 ? mill.write(i, 1) : sort == 4 ? mill.line(i, 1) : mill.seat(i, 1);
    }

    private static void upToTwelve() {
        due.promise(7, "rows of 0 to 12 items");
        for (int sort : new int[] {0, 1, 2, 3, 5, 6}) {
            for (int n : new int[] {0, 1, 2, 11, 12}) {
                FormMill mill = office();
                due.is("desk(" + sort + ", " + n + ")", mill.desk(sort, n), 0);
                for (int i = 0; i < n; i++) {
                    due.is("item " + i + " of " + n, putAt(mill, sort, i), 0);
                }
                due.is("item " + n + " of " + n, putAt(mill, sort, n), INDEX);
                due.is("item -1 of " + n, putAt(mill, sort, -1), INDEX);
                mill.give(0, 0);
                due.is("how many", mill.item(0, 0, -1), n);
                due.is("the last one", mill.item(0, 0, n - 1), n == 0 ? 0 : 1);
                due.is("behind the last one", mill.item(0, 0, n), -100);
            }
            FormMill mill = office();
            due.is("desk(" + sort + ", 13)", mill.desk(sort, 13), BAD);
            due.is("sort()", mill.sort(), NONE);
        }
    }

    private static void upToSixRows() {
        due.promise(7, "n above 12 (rows: 6)");
        for (int n : new int[] {0, 1, 5, 6}) {
            FormMill mill = office();
            due.is("desk(4, " + n + ")", mill.desk(4, n), 0);
            for (int i = 0; i < n; i++) {
                due.is("row " + i + " of " + n, mill.line(i, 1), 0);
            }
            due.is("row " + n + " of " + n, mill.line(n, 1), INDEX);
            due.is("cell of row " + n + " of " + n, mill.cell(n, 0, 1), INDEX);
            mill.give(0, 0);
            due.is("how many", mill.item(0, 0, -1), n);
        }
        FormMill mill = office();
        for (int n = 7; n <= 13; n++) {
            due.is("desk(4, " + n + ")", mill.desk(4, n), BAD);
        }
        due.is("sort()", mill.sort(), NONE);
    }

    private static void rowsOfSix() {
        due.promise(10, "Row i of rows is a new one of n wholes; BAD: n above 6");
        for (int n = 0; n <= 6; n++) {
            FormMill mill = office();
            mill.desk(4, 6);
            due.is("line(5, " + n + ")", mill.line(5, n), 0);
            for (int j = 0; j < n; j++) {
                due.is("cell(5, " + j + ")", mill.cell(5, j, j == 0 ? Integer.MIN_VALUE : Integer.MAX_VALUE), 0);
            }
            due.is("cell(5, " + n + ")", mill.cell(5, n, 1), INDEX);
            due.is("cell(5, -1)", mill.cell(5, -1, 1), INDEX);
            mill.give(0, 0);
            due.is("how many row 5 has", mill.item(0, 0, 5), n);
            due.is("its first", mill.cellOf(0, 0, 5, 0), n == 0 ? 0 : Integer.MIN_VALUE);
            due.is("its last", mill.cellOf(0, 0, 5, n - 1), n == 0 ? 0 : n == 1 ? Integer.MIN_VALUE : Integer.MAX_VALUE);
        }
        FormMill mill = office();
        mill.desk(4, 1);
        due.is("line(0, 7)", mill.line(0, 7), BAD);
        due.is("line(0, -1)", mill.line(0, -1), SIZE);
        due.is("the row is NOTHING still", mill.cell(0, 0, 1), NULL);
    }

    private static void itemsAtFirst() {
        due.promise(7, "Items are 0, untrue, NOTHING at first.");
        for (int sort = 0; sort <= 6; sort++) {
            int most = sort == 4 ? 6 : 12;
            FormMill mill = office();
            mill.desk(sort, most);
            mill.give(0, 0);
            for (int i = 0; i < most; i++) {
                due.is("item " + i + " of sort " + sort, mill.item(0, 0, i), sort < 4 ? 0 : NONE);
            }
        }
        due.promise(10, "wholes of a new row are 0");
        FormMill mill = office();
        mill.desk(4, 1);
        mill.line(0, 6);
        for (int j = 0; j < 6; j++) {
            mill.cell(0, j, 7);
        }
        mill.line(0, 6);
        mill.give(0, 0);
        for (int j = 0; j < 6; j++) {
            due.is("cellOf(0, 0, 0, " + j + ")", mill.cellOf(0, 0, 0, j), 0);
        }
    }

    private static void newEachTime() {
        due.promise(7, "THE DESK holds a new OBJECT");
        for (int sort = 0; sort <= 6; sort++) {
            FormMill mill = office();
            mill.desk(sort, 3);
            putAt(mill, sort, 0);
            mill.desk(sort, 3);
            mill.give(0, 0);
            due.is("item 0 of sort " + sort, mill.item(0, 0, 0), sort < 4 ? 0 : NONE);
        }
        due.promise(15, "what was given is not on THE DESK any more");
        FormMill mill = office();
        Due.give(mill, 0, 0, 1, 7);
        due.is("write(0, 8)", mill.write(0, 8), NULL);
        Due.hold(mill, 1, 9);
        due.is("item(0, 0, 0)", mill.item(0, 0, 0), 7);
    }

    private static void hundredEntries() {
        due.promise(6, "ENTRIES (100); its number");
        FormMill mill = new FormMill();
        due.is("desk(7, 0)", mill.desk(7, 0), BAD);
        for (int i = 0; i < 100; i++) {
            due.is("entry()", mill.entry(i, i, i % 11 == 10 ? NONE : i % 11), i);
        }
        due.is("entry() of a 101st", mill.entry(1, 1, 1), FULL);
        due.is("count(1)", mill.count(1), 100);
        due.is("desk(7, 99)", mill.desk(7, 99), 0);
        due.is("desk(7, 100)", mill.desk(7, 100), BAD);
        mill.desk(5, 1);
        due.is("seat(0, 99)", mill.seat(0, 99), 0);
        due.is("seat(0, 100)", mill.seat(0, 100), BAD);
        due.is("seat(0, -1)", mill.seat(0, -1), 0);
        due.is("seat(0, -2)", mill.seat(0, -2), BAD);
    }

    private static void labels() {
        due.promise(6, "BAD: label not 0 .. 999");
        FormMill mill = new FormMill();
        due.is("entry(-1, ..)", mill.entry(-1, 1, 1), BAD);
        due.is("entry(1000, ..)", mill.entry(1000, 1, 1), BAD);
        due.is("count(1)", mill.count(1), 0);
        due.is("entry(0, ..)", mill.entry(0, 1, 1), 0);
        due.is("entry(999, ..)", mill.entry(999, 1, 1), 1);
    }

    private static void signers() {
        due.promise(6, "SIGNED, if the signer is 0 .. 9 (NONE: not)");
        for (int signer = 0; signer <= 9; signer++) {
            FormMill mill = new FormMill();
            due.is("entry(1, 1, " + signer + ")", mill.entry(1, 1, signer), 0);
            mill.desk(6, 1);
            due.is("seat(0, 0) signed by " + signer, mill.seat(0, 0), 0);
        }
        FormMill mill = new FormMill();
        due.is("entry(1, 1, NONE)", mill.entry(1, 1, NONE), 0);
        mill.desk(6, 1);
        due.is("seat(0, 0)", mill.seat(0, 0), STORE);
        for (int signer : new int[] {10, 11, -1, -8, -10, Integer.MAX_VALUE, Integer.MIN_VALUE}) {
            due.is("entry(1, 1, " + signer + ")", mill.entry(1, 1, signer), BAD);
        }
        due.is("count(1)", mill.count(1), 1);
    }

    private static void amounts() {
        due.promise(6, "an amount (of 64 bits)");
        for (long amount : new long[] {0, 1, -1, 1L << 31, 1L << 32, Long.MAX_VALUE, Long.MIN_VALUE}) {
            FormMill mill = Due.with("form; entry a; figure f = a;");
            mill.entry(1, amount, 1);
            mill.draft(0);
            mill.desk(7, 0);
            mill.give(0, 0);
            due.is("figure(0, 0)", mill.figure(0, 0), 0);
            due.is("value()", mill.value(), amount);
        }
    }

    private static void signedsAreEntries() {
        due.promise(12, "rows of signeds take SIGNED ones alone, and are rows of entries, too");
        FormMill mill = office();
        mill.desk(6, 12);
        due.is("seat(0, 0), not SIGNED", mill.seat(0, 0), STORE);
        due.is("seat(11, 0), not SIGNED", mill.seat(11, 0), STORE);
        due.is("seat(11, 1)", mill.seat(11, 1), 0);
        due.is("seat(11, 0) does not take its place", mill.seat(11, 0), STORE);
        due.is("seat(12, 0): INDEX ahead of STORE", mill.seat(12, 0), INDEX);
        due.is("seat(-1, 0): INDEX ahead of STORE", mill.seat(-1, 0), INDEX);
        due.is("seat(10, -1): NOTHING", mill.seat(10, -1), 0);
        mill.give(0, 0);
        due.is("kindOf(0, 0)", mill.kindOf(0, 0), 6);
        due.is("item 11", mill.item(0, 0, 11), 1);
        due.is("item 0", mill.item(0, 0, 0), NONE);
        mill.desk(5, 2);
        due.is("seat(0, 0) of entries", mill.seat(0, 0), 0);
        due.is("seat(1, 1) of entries", mill.seat(1, 1), 0);
        mill.give(0, 0);
        due.is("kindOf(0, 0)", mill.kindOf(0, 0), 5);
    }

    private static void oneEntry() {
        due.promise(7, "or (7) the ENTRY n; BAD: no ENTRY");
        FormMill mill = office();
        due.is("desk(7, -1): no SIZE here", mill.desk(7, -1), BAD);
        due.is("desk(7, MIN)", mill.desk(7, Integer.MIN_VALUE), BAD);
        due.is("desk(7, 2)", mill.desk(7, 2), BAD);
        due.is("count(7)", mill.count(7), 0);
        for (int e = 0; e < 2; e++) {
            due.is("desk(7, " + e + ")", mill.desk(7, e), 0);
            due.is("sort()", mill.sort(), 7);
            due.is("write(0, 1)", mill.write(0, 1), CAST);
            due.is("line(0, 1)", mill.line(0, 1), CAST);
            due.is("cell(0, 0, 1)", mill.cell(0, 0, 1), CAST);
            due.is("seat(0, 1): no row of entries", mill.seat(0, 1), CAST);
            mill.give(0, 0);
            due.is("item(0, 0, 0)", mill.item(0, 0, 0), e);
            due.is("item(0, 0, -1)", mill.item(0, 0, -1), 1);
        }
    }

    private static void sizes() {
        due.promise(7, "-10 less SIZE: n below 0 (0 to 6)");
        FormMill mill = office();
        Due.hold(mill, 2, 5);
        for (int sort = 0; sort <= 6; sort++) {
            due.is("desk(" + sort + ", -1)", mill.desk(sort, -1), SIZE);
            due.is("desk(" + sort + ", MIN)", mill.desk(sort, Integer.MIN_VALUE), SIZE);
        }
        due.is("desk(-1, -1): no SORT", mill.desk(-1, -1), BAD);
        due.is("desk(8, -1): no SORT", mill.desk(8, -1), BAD);
        due.is("count(7)", mill.count(7), 14);
        due.is("it holds what it held", mill.sort(), 2);
        mill.give(0, 0);
        due.is("item(0, 0, 0)", mill.item(0, 0, 0), 5);
    }

    private static void deskHolds() {
        due.promise(13, "The SORT of what THE DESK holds; NONE.");
        FormMill mill = office();
        due.is("sort() at first", mill.sort(), NONE);
        for (int sort = 0; sort <= 7; sort++) {
            mill.desk(sort, 0);
            due.is("sort() of an empty one", mill.sort(), sort);
        }
        due.promise(8, "It holds NOTHING: 0.");
        due.is("clear()", mill.clear(), 0);
        due.is("sort()", mill.sort(), NONE);
        due.is("clear() of NOTHING", mill.clear(), 0);
        due.is("sort()", mill.sort(), NONE);
        due.is("write(0, 1)", mill.write(0, 1), NULL);
        due.is("line(0, 1)", mill.line(0, 1), NULL);
        due.is("cell(0, 0, 1)", mill.cell(0, 0, 1), NULL);
        due.is("seat(0, 1)", mill.seat(0, 1), NULL);
        due.is("give(0, 0): NOTHING", mill.give(0, 0), 1);
        due.is("kindOf(0, 0)", mill.kindOf(0, 0), NONE);
    }

    /** Each FAILURE of a call where another one of it would come later. */
    private static void failuresInOrder() {
        due.promise(9, "-10 less NULL, CAST, INDEX");
        FormMill mill = office();
        due.is("write(-1, 1): NULL ahead of INDEX", mill.write(-1, 1), NULL);
        mill.desk(4, 0);
        due.is("write(-1, 1): CAST ahead of INDEX", mill.write(-1, 1), CAST);
        mill.desk(1, 0);
        due.is("write(0, 1)", mill.write(0, 1), INDEX);
        due.promise(10, "-10 less SIZE, NULL, CAST, INDEX (in this order)");
        mill.clear();
        due.is("line(-1, -1): SIZE ahead of NULL", mill.line(-1, -1), SIZE);
        due.is("line(-1, 0): NULL ahead of INDEX", mill.line(-1, 0), NULL);
        mill.desk(0, 0);
        due.is("line(-1, -1): SIZE ahead of CAST", mill.line(-1, -1), SIZE);
        due.is("line(-1, 0): CAST ahead of INDEX", mill.line(-1, 0), CAST);
        mill.desk(4, 0);
        due.is("line(0, -1): SIZE ahead of INDEX", mill.line(0, -1), SIZE);
        due.is("line(0, 0): INDEX", mill.line(0, 0), INDEX);
        due.promise(11, "-10 less CAST, NULL, INDEX (of rows), NULL (the row), INDEX");
        mill.desk(3, 0);
        due.is("cell(-1, -1, 1): CAST ahead of INDEX", mill.cell(-1, -1, 1), CAST);
        mill.clear();
        due.is("cell(-1, -1, 1): NULL ahead of INDEX", mill.cell(-1, -1, 1), NULL);
        mill.desk(4, 1);
        due.is("cell(1, -1, 1): INDEX of rows", mill.cell(1, -1, 1), INDEX);
        due.is("cell(0, -1, 1): the row ahead of its INDEX", mill.cell(0, -1, 1), NULL);
        mill.line(0, 0);
        due.is("cell(0, 0, 1)", mill.cell(0, 0, 1), INDEX);
        due.promise(12, "-10 less CAST, NULL, INDEX, STORE");
        mill.desk(4, 0);
        due.is("seat(-1, 0): CAST ahead of INDEX", mill.seat(-1, 0), CAST);
        mill.clear();
        due.is("seat(-1, 0): NULL ahead of INDEX", mill.seat(-1, 0), NULL);
        mill.desk(6, 0);
        due.is("seat(0, 0): INDEX ahead of STORE", mill.seat(0, 0), INDEX);
        mill.desk(6, 1);
        due.is("seat(0, 0)", mill.seat(0, 0), STORE);
        due.is("count(7): one each", mill.count(7), 18);
    }

    // ---- "When 10000 FAILURES came ever already (also those that a try met), each call .. answers that"

    /** One FAILURE of each way, in an office of Failing's with form 2 and draft 2 for what needs more. */
    private static FormMill lastOne() {
        FormMill mill = new FormMill();
        Due.form(mill, "form; text a 1; figure n = a[0];");
        Due.form(mill, "form;yes a0;yes a1;yes a2;yes a3;yes a4;yes a5;yes a6;yes a7;" + "check 1 1/0;".repeat(12));
        Due.form(mill, "form; text a 1 when 1/0; list c 4; figure f = 1/0; figure g = try a else 1;");
        Due.form(mill, "form; signed s 4;");
        mill.entry(1, 2, NONE);
        mill.draft(2);
        mill.draft(0);
        Due.give(mill, 1, 0, 1, 5);
        mill.draft(3);
        mill.draft(3);
        mill.move(2, 1, 3, 0);
        Due.seats(mill, 5, 0);
        mill.give(0, 1);
        int left = 9999;
        for (int i = 0; i < 9; i++) {
            int work = Math.min(100, left / 12);
            mill.shortest(1, work);
            left -= 12 * work;
        }
        for (; left > 0; left--) {
            mill.clear();
            mill.write(0, 0);
        }
        due.is("count(7)", mill.count(7), 9999);
        return mill;
    }

    private static void comes(String way, Consumer<FormMill> failing) {
        FormMill mill = lastOne();
        due.is("desk(6, 1) behind 9999", mill.desk(6, 1), 0);
        failing.accept(mill);
        due.is("count(7) by " + way, mill.count(7), 10000);
        due.is("desk(1, 1) behind " + way, mill.desk(1, 1), FULL);
        due.is("check(2) behind " + way, mill.check(2), FULL);
        due.is("count(7) by " + way + ", then", mill.count(7), 10000);
    }

    private static void tenThousand() {
        due.promise(7, "When 10000 FAILURES came ever already");
        comes("NULL of write()", m -> {
            m.clear();
            m.write(0, 0);
        });
        comes("CAST of write()", m -> m.write(0, 0));
        comes("INDEX of seat()", m -> m.seat(1, 0));
        comes("STORE of seat()", m -> m.seat(0, 0));
        comes("SIZE of desk()", m -> m.desk(0, -1));
        comes("SIZE of line()", m -> m.line(0, -1));
        comes("CAST of cell()", m -> m.cell(0, 0, 0));
        comes("DIVIDE of figure()", m -> m.figure(0, 0));
        comes("a condition in shown()", m -> m.shown(0, 0));
        comes("a condition in check()", m -> m.check(0));
        comes("a condition in submit()", m -> m.submit(0, 0));
        comes("an answer in check()", m -> m.check(1));
        comes("STORE of migrate()", m -> m.migrate(0, 3));
    }

    private static void tenThousandByTries() {
        due.promise(24, "(also those that a try met)");
        comes("a try in figure()", m -> due.is("figure(0, 1)", m.figure(0, 1), 0));
        due.promise(31, "When 10000 FAILURES came ever already");
        FormMill mill = lastOne();
        due.is("count(7)", mill.count(7), 9999);
        Due.form(mill, "form; group h when 0 { text d 4; }");
        mill.draft(4);
        Due.give(mill, 4, 1, 1, 5);
        due.is("submit(4, 0)", mill.submit(4, 0), 1);
        due.is("stats(4, 1, 0) brings none", mill.stats(4, 1, 0), 1);
        due.is("count(7)", mill.count(7), 9999);
        due.is("stats(4, 1, 2) brings one", mill.stats(4, 1, 2), 1);
        due.is("count(7)", mill.count(7), 10000);
        due.is("stats(4, 1, 2)", mill.stats(4, 1, 2), -101);
    }

    private static void beyondTenThousand() {
        due.promise(21, "10000 is asked for ahead of a call alone");
        FormMill mill = Failing.upTo(9999);
        due.is("check(1): 12 failures", mill.check(1), 12);
        due.is("count(7)", mill.count(7), 10011);
        due.is("check(1)", mill.check(1), FULL);
        due.is("finding(11, 0) stays", mill.finding(11, 0), 4);
        FormMill just = Failing.upTo(9988);
        due.is("check(1): up to 10000", just.check(1), 12);
        due.is("count(7)", just.count(7), 10000);
        due.is("check(1)", just.check(1), FULL);
        FormMill less = Failing.upTo(9987);
        due.is("check(1): up to 9999", less.check(1), 12);
        due.is("check(1): up to 10011", less.check(1), 12);
        due.is("check(1)", less.check(1), FULL);
    }
}
