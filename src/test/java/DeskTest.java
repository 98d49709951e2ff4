/** Promises 6 to 13: entries and the desk. */
public final class DeskTest {
    private static final Due due = new Due("DeskTest");
    private static final int NULL = -11, CAST = -12, INDEX = -13, STORE = -15, SIZE = -16;

    public static void main(String[] args) {
        entry();
        desk();
        firstItems();
        clear();
        write();
        line();
        cell();
        seat();
        sort();
        full();
        due.end();
    }

    /** An office with entry 0, that is not signed, and entry 1, that is. */
    private static FormMill office() {
        FormMill mill = Due.with("form; yes a; figure n = a[0];");
        mill.entry(5, 50, FormMill.NONE);
        mill.entry(6, 60, 0);
        mill.draft(0);
        return mill;
    }

    private static void entry() {
        due.promise(6, "entry");
        FormMill mill = new FormMill();
        due.is("entry(-1, 0, 0)", mill.entry(-1, 0, 0), FormMill.BAD);
        due.is("entry(1000, 0, 0)", mill.entry(1000, 0, 0), FormMill.BAD);
        due.is("entry(0, 0, 10)", mill.entry(0, 0, 10), FormMill.BAD);
        due.is("entry(0, 0, -1)", mill.entry(0, 0, -1), FormMill.BAD);
        due.is("entry(0, 0, -10)", mill.entry(0, 0, -10), FormMill.BAD);
        due.is("count(1)", mill.count(1), 0);
        due.is("entry(0, MIN, NONE)", mill.entry(0, Long.MIN_VALUE, FormMill.NONE), 0);
        due.is("entry(999, MAX, 0)", mill.entry(999, Long.MAX_VALUE, 0), 1);
        due.is("entry(999, 0, 9)", mill.entry(999, 0, 9), 2);
        due.is("desk(6, 3)", mill.desk(6, 3), 0);
        due.is("seat(0, 0): not signed", mill.seat(0, 0), STORE);
        due.is("seat(1, 1): signed by 0", mill.seat(1, 1), 0);
        due.is("seat(2, 2): signed by 9", mill.seat(2, 2), 0);
        for (int i = 3; i < 100; i++) {
            due.is("entry()", mill.entry(1, 2, 3), i);
        }
        due.is("entry 101", mill.entry(1, 2, 3), FormMill.FULL);
        due.is("entry 101, BAD", mill.entry(1000, 2, 3), FormMill.BAD);
        due.is("count(1)", mill.count(1), 100);
        FormMill worths = Due.with("form; entry a; figure f = a;");
        worths.entry(0, Long.MIN_VALUE, FormMill.NONE);
        worths.draft(0);
        worths.desk(7, 0);
        worths.give(0, 0);
        due.is("figure(0, 0)", worths.figure(0, 0), 0);
        due.is("the amount has 64 bits", worths.value(), Long.MIN_VALUE);
    }

    private static void desk() {
        due.promise(7, "desk");
        FormMill mill = office();
        for (int sort = 0; sort <= 6; sort++) {
            int most = sort == 4 ? 6 : 12;
            int before = mill.count(7);
            due.is("desk(" + sort + ", 0)", mill.desk(sort, 0), 0);
            due.is("sort()", mill.sort(), sort);
            due.is("desk(" + sort + ", " + most + ")", mill.desk(sort, most), 0);
            due.is("desk(" + sort + ", one more)", mill.desk(sort, most + 1), FormMill.BAD);
            due.is("desk(" + sort + ", -1)", mill.desk(sort, -1), SIZE);
            due.is("desk(" + sort + ", MIN)", mill.desk(sort, Integer.MIN_VALUE), SIZE);
            due.is("the failures count", mill.count(7), before + 2);
        }
        due.is("desk(1, 2)", mill.desk(1, 2), 0);
        due.is("desk(8, 0)", mill.desk(8, 0), FormMill.BAD);
        due.is("desk(-1, 0)", mill.desk(-1, 0), FormMill.BAD);
        due.is("desk(8, -1)", mill.desk(8, -1), FormMill.BAD);
        due.is("desk(7, 2)", mill.desk(7, 2), FormMill.BAD);
        due.is("desk(7, -1)", mill.desk(7, -1), FormMill.BAD);
        due.is("desk(2, -1)", mill.desk(2, -1), SIZE);
        due.is("refusals and failures leave it", mill.sort(), 1);
        due.is("write(1, 5)", mill.write(1, 5), 0);
        due.is("desk(7, 1)", mill.desk(7, 1), 0);
        due.is("sort()", mill.sort(), 7);
        mill.give(0, 0);
        due.is("item(0, 0, 0): its number", mill.item(0, 0, 0), 1);
    }

    private static void firstItems() {
        due.promise(7, "desk: items at first");
        FormMill mill = office();
        long[] first = {0, 0, 0, 0, FormMill.NONE, FormMill.NONE, FormMill.NONE};
        for (int sort = 0; sort <= 6; sort++) {
            mill.desk(sort, 3);
            mill.give(0, 0);
            due.is("items", mill.item(0, 0, -1), 3);
            due.is("item 0", mill.item(0, 0, 0), first[sort]);
            due.is("item 2", mill.item(0, 0, 2), first[sort]);
        }
        Due.hold(mill, 1, 7, 8);
        mill.desk(1, 2);
        mill.give(0, 0);
        due.is("a new object, not the one before", mill.item(0, 0, 0), 0);
    }

    private static void clear() {
        due.promise(8, "clear");
        FormMill mill = office();
        due.is("clear() of nothing", mill.clear(), 0);
        for (int sort = 0; sort <= 7; sort++) {
            mill.desk(sort, 1);
            due.is("clear()", mill.clear(), 0);
            due.is("sort()", mill.sort(), FormMill.NONE);
        }
        due.is("no failures", mill.count(7), 0);
        due.is("write(0, 0)", mill.write(0, 0), NULL);
    }

    private static void write() {
        due.promise(9, "write");
        FormMill mill = office();
        long[] given = {0, 1, -1, 65536 + 65, 1L << 32, (1L << 32) - 1, Long.MIN_VALUE, 0x8000, 256, 2};
        for (int sort = 0; sort <= 3; sort++) {
            for (long v : given) {
                mill.desk(sort, 2);
                due.is("write(1, " + v + ")", mill.write(1, v), 0);
                mill.give(0, 0);
                long want = sort == 0 ? (v != 0 ? 1 : 0) : sort == 1 ? (int) v : sort == 2 ? v : (char) v;
                due.is("of sort " + sort + " is then", mill.item(0, 0, 1), want);
                due.is("the other item", mill.item(0, 0, 0), 0);
            }
        }
        mill.desk(0, 1);
        mill.write(0, 1);
        due.is("untrue again", mill.write(0, 0), 0);
        mill.give(0, 0);
        due.is("item", mill.item(0, 0, 0), 0);
        due.is("no failure so far", mill.count(7), 0);
        due.is("write(0, 0) of NOTHING", mill.write(0, 0), NULL);
        for (int sort = 0; sort <= 3; sort++) {
            mill.desk(sort, 2);
            due.is("write(2, 0)", mill.write(2, 0), INDEX);
            due.is("write(-1, 0)", mill.write(-1, 0), INDEX);
            mill.desk(sort, 0);
            due.is("write(0, 0)", mill.write(0, 0), INDEX);
        }
        for (int sort = 4; sort <= 7; sort++) {
            mill.desk(sort, 1);
            due.is("write(0, 0) of sort " + sort, mill.write(0, 0), CAST);
            due.is("write(9, 0) of sort " + sort, mill.write(9, 0), CAST);
        }
        due.is("count(7)", mill.count(7), 1 + 12 + 8);
    }

    private static void line() {
        due.promise(10, "line");
        FormMill mill = office();
        due.is("line(0, -1) of NOTHING: SIZE first", mill.line(0, -1), SIZE);
        due.is("line(0, 7) of NOTHING: BAD first", mill.line(0, 7), FormMill.BAD);
        due.is("line(0, 1) of NOTHING", mill.line(0, 1), NULL);
        due.is("count(7)", mill.count(7), 2);
        for (int sort = 0; sort <= 7; sort++) {
            if (sort != 4) {
                mill.desk(sort, 1);
                due.is("line(5, 1) of sort " + sort, mill.line(5, 1), CAST);
                due.is("line(5, -1) of sort " + sort, mill.line(5, -1), SIZE);
                due.is("line(5, 7) of sort " + sort, mill.line(5, 7), FormMill.BAD);
            }
        }
        mill.desk(4, 3);
        due.is("line(3, 1)", mill.line(3, 1), INDEX);
        due.is("line(-1, 1)", mill.line(-1, 1), INDEX);
        due.is("line(-1, -1)", mill.line(-1, -1), SIZE);
        due.is("line(0, 0)", mill.line(0, 0), 0);
        due.is("line(2, 6)", mill.line(2, 6), 0);
        due.is("cell(2, 5, 9)", mill.cell(2, 5, 9), 0);
        mill.give(0, 0);
        due.is("row 0", mill.item(0, 0, 0), 0);
        due.is("row 1", mill.item(0, 0, 1), FormMill.NONE);
        due.is("row 2", mill.item(0, 0, 2), 6);
        due.is("its items are 0 at first", mill.cellOf(0, 0, 2, 4), 0);
        mill.desk(4, 1);
        mill.line(0, 2);
        mill.cell(0, 1, 5);
        due.is("line(0, 3): a new row", mill.line(0, 3), 0);
        mill.give(0, 0);
        due.is("row 0", mill.item(0, 0, 0), 3);
        due.is("what was there went", mill.cellOf(0, 0, 0, 1), 0);
    }

    private static void cell() {
        due.promise(11, "cell");
        FormMill mill = office();
        due.is("cell(0, 0, 1) of NOTHING", mill.cell(0, 0, 1), NULL);
        for (int sort = 0; sort <= 7; sort++) {
            if (sort != 4) {
                mill.desk(sort, 1);
                due.is("cell(9, 9, 1) of sort " + sort, mill.cell(9, 9, 1), CAST);
            }
        }
        mill.desk(4, 2);
        due.is("cell(2, 0, 1)", mill.cell(2, 0, 1), INDEX);
        due.is("cell(-1, 0, 1)", mill.cell(-1, 0, 1), INDEX);
        due.is("cell(1, 0, 1)", mill.cell(1, 0, 1), NULL);
        due.is("cell(1, -5, 1)", mill.cell(1, -5, 1), NULL);
        mill.line(1, 2);
        due.is("cell(1, 2, 1)", mill.cell(1, 2, 1), INDEX);
        due.is("cell(1, -1, 1)", mill.cell(1, -1, 1), INDEX);
        due.is("cell(1, 1, MIN)", mill.cell(1, 1, Integer.MIN_VALUE), 0);
        due.is("count(7)", mill.count(7), 1 + 7 + 6);
        mill.give(0, 0);
        due.is("cellOf(0, 0, 1, 1)", mill.cellOf(0, 0, 1, 1), Integer.MIN_VALUE);
        due.is("cellOf(0, 0, 1, 0)", mill.cellOf(0, 0, 1, 0), 0);
    }

    private static void seat() {
        due.promise(12, "seat");
        FormMill mill = office();
        due.is("seat(0, 2): no such entry", mill.seat(0, 2), FormMill.BAD);
        due.is("seat(0, -2)", mill.seat(0, -2), FormMill.BAD);
        due.is("seat(0, NONE)", mill.seat(0, FormMill.NONE), FormMill.BAD);
        due.is("seat(0, 0) of NOTHING", mill.seat(0, 0), NULL);
        due.is("seat(0, -1) of NOTHING", mill.seat(0, -1), NULL);
        for (int sort = 0; sort <= 7; sort++) {
            if (sort != 5 && sort != 6) {
                mill.desk(sort, 1);
                due.is("seat(9, 0) of sort " + sort, mill.seat(9, 0), CAST);
                due.is("seat(9, 2) of sort " + sort, mill.seat(9, 2), FormMill.BAD);
            }
        }
        for (int sort = 5; sort <= 6; sort++) {
            mill.desk(sort, 2);
            due.is("seat(2, 0)", mill.seat(2, 0), INDEX);
            due.is("seat(-1, 0)", mill.seat(-1, 0), INDEX);
            due.is("seat(2, -1)", mill.seat(2, -1), INDEX);
            due.is("seat(1, 1)", mill.seat(1, 1), 0);
            due.is("seat(0, 0)", mill.seat(0, 0), sort == 5 ? 0 : STORE);
            mill.give(0, 0);
            due.is("item 0", mill.item(0, 0, 0), sort == 5 ? 0 : FormMill.NONE);
            due.is("item 1", mill.item(0, 0, 1), 1);
        }
        due.is("count(7)", mill.count(7), 2 + 6 + 6 + 1);
        mill.desk(5, 1);
        mill.seat(0, 0);
        due.is("seat(0, -1)", mill.seat(0, -1), 0);
        mill.give(0, 0);
        due.is("item 0 is NOTHING", mill.item(0, 0, 0), FormMill.NONE);
    }

    private static void sort() {
        due.promise(13, "sort");
        FormMill mill = office();
        due.is("sort()", mill.sort(), FormMill.NONE);
        for (int sort = 0; sort <= 7; sort++) {
            mill.desk(sort, 0);
            due.is("sort()", mill.sort(), sort);
        }
        mill.give(0, 0);
        due.is("sort() behind give()", mill.sort(), FormMill.NONE);
    }

    /** 10000 failures come fastest by fillings that fail again and again. */
    private static void full() {
        due.promise(7, "the 10000th failure");
        FormMill mill = Failing.upTo(9999);
        due.is("count(7)", mill.count(7), 9999);
        due.is("desk(1, 1)", mill.desk(1, 1), 0);
        due.is("line(0, 1)", mill.line(0, 1), CAST);
        due.is("count(7)", mill.count(7), 10000);
        due.is("desk(1, 1)", mill.desk(1, 1), FormMill.FULL);
        due.is("desk(7, 0)", mill.desk(7, 0), FormMill.FULL);
        due.is("desk(1, -1)", mill.desk(1, -1), FormMill.FULL);
        due.is("desk(1, 13)", mill.desk(1, 13), FormMill.BAD);
        due.is("desk(7, 9)", mill.desk(7, 9), FormMill.BAD);
        due.promise(9, "the 10000th failure");
        due.is("write(0, 1)", mill.write(0, 1), FormMill.FULL);
        due.promise(10, "the 10000th failure");
        due.is("line(0, 1)", mill.line(0, 1), FormMill.FULL);
        due.is("line(0, -1)", mill.line(0, -1), FormMill.FULL);
        due.is("line(0, 7)", mill.line(0, 7), FormMill.BAD);
        due.promise(11, "the 10000th failure");
        due.is("cell(0, 0, 1)", mill.cell(0, 0, 1), FormMill.FULL);
        due.promise(12, "the 10000th failure");
        due.is("seat(0, 0)", mill.seat(0, 0), FormMill.FULL);
        due.is("seat(0, 9)", mill.seat(0, 9), FormMill.BAD);
        due.is("sort() as before", mill.sort(), 1);
        due.is("clear()", mill.clear(), 0);
        due.is("count(7)", mill.count(7), 10000);
    }
}
