/** The edges that "3 WORKING" and promises 23 to 26 name, sentence by sentence. */
public final class WorkEdgesTest {
    private static final Due due = new Due("WorkEdgesTest");
    private static final int NONE = FormMill.NONE, BAD = FormMill.BAD;
    private static final int NULL = 1, CAST = 2, INDEX = 3, DIVIDE = 4;

    /** Parts a 0 yes, b 1 whole, c 2 money, d 3 date, e 4 choice, g 5 many, h 6 text, i 7 table, j 8 list, k 9 signed, l 10 entry. */
    private static final String KINDS =
        "form;yes a;whole b 0 9;money c 9;date d 0 9;choice e 2;many g 2 0 2;text h 9;table i 2 6;list j 8;signed k 8;entry l;";
    private static final String NAMES = "abcdeghijkl";
    /** The SORT that each kind is taken AS. */
    private static final int[] AS = {0, 1, 2, 1, 1, 0, 3, 4, 5, 6, 5};

    public static void main(String[] args) {
        longsGoRound();
        sumsGoRound();
        comparisons();
        byNought();
        leftFirst();
        castOfAllSorts();
        nothingIsThere();
        namesOfEmptyRows();
        namesOfLongRows();
        itemsOfRows();
        itemsCutTo32();
        cells();
        workedFirst();
        lengths();
        totals();
        columns();
        hasAndIs();
        orAndNot();
        tries();
        onceInACall();
        metAgain();
        arose();
        wordsWorkedAndEnded();
        twelveFigures();
        shown();
        shownFromOutside();
        valueStays();
        toldAheadOfAny();
        due.end();
    }

    private static FormMill office(String exp) {
        FormMill mill = Due.with(KINDS + "figure f=" + exp + ";");
        mill.entry(1, 10, NONE);
        mill.entry(2, 20, 5);
        mill.draft(0);
        return mill;
    }

    /** The worth of the figure f, or -1000 less its FAILURE. */
    private static void worth(FormMill mill, String exp, long want) {
        int before = mill.count(7);
        int answer = mill.figure(0, 0);
        due.is("figure " + exp, answer == 0 ? mill.value() : -1000 - answer, want);
        due.is("FAILURES of " + exp, mill.count(7) - before, answer == 0 ? 0 : 1);
    }

    private static void plain(String exp, long want) {
        worth(office(exp), exp, want);
    }

    private static void with(int part, int sort, long[] items, String exp, long want) {
        FormMill mill = office(exp);
        if (sort == 7) {
            mill.desk(7, (int) items[0]);
        } else if (sort == 4) {
            // Rows as long as the items tell; -1 is NOTHING.
            mill.desk(4, items.length);
            for (int r = 0; r < items.length; r++) {
                mill.line(r, (int) items[r]);
                for (int j = 0; j < items[r]; j++) {
                    mill.cell(r, j, 10 * r + j + 1);
                }
            }
        } else {
            mill.desk(sort, items.length);
            for (int n = 0; n < items.length; n++) {
                if (sort >= 5) {
                    mill.seat(n, (int) items[n]);
                } else {
                    mill.write(n, items[n]);
                }
            }
        }
        mill.give(0, part);
        worth(mill, exp + " with sort " + sort + " of " + items.length, want);
    }

    private static long[] row(long... items) {
        return items;
    }

    private static long failing(int kind) {
        return -1000 - kind;
    }

    // ---- longs

    private static void longsGoRound() {
        due.promise(24, "longs that go round");
        long max = Long.MAX_VALUE;
        long min = Long.MIN_VALUE;
        with(2, 2, row(max), "c+1", min);
        with(2, 2, row(max), "c+c", -2);
        with(2, 2, row(min), "c-1", max);
        with(2, 2, row(min), "c+c", 0);
        with(2, 2, row(max), "c*2", -2);
        with(2, 2, row(max), "c*c", 1);
        with(2, 2, row(min), "c*(0-1)", min);
        with(2, 2, row(min), "-c", min);
        with(2, 2, row(max), "-c", -max);
        with(2, 2, row(min), "0-c", min);
        with(2, 2, row(min), "c/-1", min);
        with(2, 2, row(min), "c%-1", 0);
        with(2, 2, row(min), "c/c", 1);
        with(2, 2, row(min), "c%c", 0);
        plain("-7/2", -3);
        plain("7/-2", -3);
        plain("-7%2", -1);
        plain("7%-2", 1);
        plain("65536*65536*32768", 1L << 47);
        plain("65536*65536*65536*65536", 0);
        plain("65536*65536*65536*32768", min);
        plain("65536*65536*65536*32768-1", max);
    }

    private static void sumsGoRound() {
        due.promise(24, "sums go round, and hold more than 32 bits");
        with(2, 2, row(Long.MAX_VALUE, 1), "total c", Long.MIN_VALUE);
        with(2, 2, row(Long.MIN_VALUE, -1), "total c", Long.MAX_VALUE);
        with(1, 1, row(Integer.MAX_VALUE, 1), "total b", 1L << 31);
        with(1, 1, row(Integer.MIN_VALUE, -1), "total b", -(1L << 31) - 1);
        with(6, 3, row(65535, 65535, 65535, 65535, 65535, 65535, 65535, 65535, 65535, 65535, 65535, 65535), "total h", 12 * 65535);
        FormMill mill = office("total j");
        mill.entry(1, Long.MAX_VALUE, 1);
        Due.seats(mill, 5, 2, 0, 2);
        mill.give(0, 8);
        worth(mill, "total j", 8);
        FormMill rows = office("total i");
        Due.rows(rows, new int[] {Integer.MAX_VALUE, Integer.MAX_VALUE}, new int[] {Integer.MAX_VALUE});
        rows.give(0, 7);
        worth(rows, "total i", 3L * Integer.MAX_VALUE);
        FormMill column = office("total i[1]");
        Due.rows(column, new int[] {0, Integer.MIN_VALUE}, new int[] {0, Integer.MIN_VALUE});
        column.give(0, 7);
        worth(column, "total i[1]", 2L * Integer.MIN_VALUE);
    }

    private static void comparisons() {
        due.promise(24, "= < >: 1 or 0");
        long[] c = {Long.MIN_VALUE, -1, 0, 1, Long.MAX_VALUE};
        for (long v : c) {
            for (long w : c) {
                with(2, 2, row(v, w), "c=c[1]", v == w ? 1 : 0);
                with(2, 2, row(v, w), "c<c[1]", v < w ? 1 : 0);
                with(2, 2, row(v, w), "c>c[1]", v > w ? 1 : 0);
            }
        }
        with(2, 2, row(1L << 32), "c=0", 0);
        with(2, 2, row(1L << 32), "c>0", 1);
    }

    private static void byNought() {
        due.promise(24, "/ and % by 0: DIVIDE");
        plain("1/0", failing(DIVIDE));
        plain("1%0", failing(DIVIDE));
        plain("0/0", failing(DIVIDE));
        plain("0%0", failing(DIVIDE));
        plain("0/1", 0);
        plain("0%1", 0);
        plain("1/(1-1)", failing(DIVIDE));
        plain("1/-0", failing(DIVIDE));
        with(2, 2, row(Long.MIN_VALUE), "c/0", failing(DIVIDE));
        with(2, 2, row(Long.MIN_VALUE), "c%0", failing(DIVIDE));
        with(2, 2, row(1L << 32), "1/c", 0);
        with(2, 2, row(1L << 32), "1%c", 1);
    }

    private static void leftFirst() {
        due.promise(24, "The first that comes, as it is worked.");
        for (String sign : new String[] {"+", "-", "*", "/", "%", "=", "<", ">", " or ", " and "}) {
            plain("(1/0)" + sign + "a", failing(DIVIDE));
            plain("a" + sign + "(1/0)", failing(NULL));
            plain("(b)" + sign + "c[1/0]", failing(NULL));
        }
        plain("a/0", failing(NULL));
        plain("a%0", failing(NULL));
        plain("1/0+2*a", failing(DIVIDE));
        plain("1+2*a+1/0", failing(NULL));
        plain("0*(1/0)", failing(DIVIDE));
        with(1, 0, row(1), "b+a", failing(CAST));
        with(1, 0, row(1), "a+b", failing(NULL));
        with(1, 1, row(), "b+a", failing(INDEX));
        with(1, 1, row(), "b/(b-b)", failing(INDEX));
    }

    // ---- taken AS

    private static boolean isTaken(int sort, int as) {
        return sort == as || sort == 6 && as == 5;
    }

    private static void castOfAllSorts() {
        due.promise(24, "another SORT: CAST; rows of signeds can be taken as entries");
        for (int kind = 0; kind <= 10; kind++) {
            char name = NAMES.charAt(kind);
            for (int sort = 0; sort <= 7; sort++) {
                long[] items = sort == 4 ? row(2) : row(1);
                boolean isAs = isTaken(sort, AS[kind]);
                long amount = sort >= 5 ? 20 : sort == 4 ? 2 : 1;
                boolean counts = kind >= 6 && kind <= 9;
                long alone = kind == 10 ? sort == 7 ? 20 : failing(CAST) : !isAs ? failing(CAST) : counts ? 1 : amount;
                with(kind, sort, items, "" + name, alone);
                with(kind, sort, items, name + "[0]", isAs ? amount : failing(CAST));
                with(kind, sort, items, "len " + name, isAs ? 1 : failing(CAST));
                with(kind, sort, items, "total " + name, !isAs ? failing(CAST) : sort == 4 ? 3 : amount);
                with(kind, sort, items, name + "[0,1]", sort == 4 ? 2 : failing(CAST));
                with(kind, sort, items, "total " + name + "[1]", sort == 4 ? 2 : failing(CAST));
                with(kind, sort, items, name + "[9]", isAs ? failing(INDEX) : failing(CAST));
                with(kind, sort, items, name + "[9,9]", sort == 4 ? failing(INDEX) : failing(CAST));
            }
        }
    }

    private static void nothingIsThere() {
        due.promise(24, "NULL (NOTHING is there)");
        for (int kind = 0; kind <= 10; kind++) {
            char name = NAMES.charAt(kind);
            plain("" + name, failing(NULL));
            plain(name + "[0]", failing(NULL));
            plain(name + "[0-1]", failing(NULL));
            plain(name + "[0,0]", failing(NULL));
            plain("len " + name, failing(NULL));
            plain("total " + name, failing(NULL));
            plain("total " + name + "[0]", failing(NULL));
            plain("has " + name, 0);
            plain("is one " + name, 0);
        }
    }

    private static void namesOfEmptyRows() {
        due.promise(24, "NAME of a PART: item 0; how many are true; how many items");
        int[] singles = {0, 1, 2, 3, 4};
        for (int kind : singles) {
            with(kind, AS[kind], row(), "" + NAMES.charAt(kind), failing(INDEX));
        }
        for (int kind = 5; kind <= 9; kind++) {
            with(kind, AS[kind], row(), "" + NAMES.charAt(kind), 0);
        }
        with(8, 6, row(), "j", 0);
        with(10, 5, row(), "l", failing(CAST));
    }

    private static void namesOfLongRows() {
        due.promise(24, "NAME of a PART, of 12 items (rows: 6)");
        long[] twelve = {1, 0, 1, 1, 0, 1, 1, 1, 1, 1, 1, 1};
        with(0, 0, twelve, "a", 1);
        with(1, 1, twelve, "b", 1);
        with(2, 2, twelve, "c", 1);
        with(5, 0, twelve, "g", 10);
        with(6, 3, twelve, "h", 12);
        with(8, 5, twelve, "j", 12);
        with(9, 6, row(1, -1, -1, 1, 1, 1, 1, 1, 1, 1, 1, -1), "k", 12);
        with(7, 4, row(1, -1, 0, 6, -1, -1), "i", 6);
        with(0, 0, row(0, 1), "a", 0);
        with(5, 0, row(0, 0, 0), "g", 0);
    }

    // ---- items

    private static void itemsOfRows() {
        due.promise(24, "NAME [ e ]: item e of it taken AS");
        for (int kind = 0; kind <= 10; kind++) {
            char name = NAMES.charAt(kind);
            int sort = AS[kind];
            for (int n : new int[] {0, 1, 2, sort == 4 ? 6 : 12}) {
                long[] items = new long[n];
                java.util.Arrays.fill(items, 1);
                long last = sort >= 5 ? 20 : 1;
                with(kind, sort, items, name + "[-1]", failing(INDEX));
                with(kind, sort, items, name + "[0]", n > 0 ? last : failing(INDEX));
                with(kind, sort, items, name + "[" + Math.max(0, n - 1) + "]", n > 0 ? last : failing(INDEX));
                with(kind, sort, items, name + "[" + n + "]", failing(INDEX));
                with(kind, sort, items, name + "[999999]", failing(INDEX));
            }
        }
        with(7, 4, row(0, 6, -1), "i[0]", 0);
        with(7, 4, row(0, 6, -1), "i[1]", 6);
        with(7, 4, row(0, 6, -1), "i[2]", failing(NULL));
        with(8, 5, row(0, 1, -1), "j[0]", 10);
        with(8, 5, row(0, 1, -1), "j[2]", failing(NULL));
        with(9, 6, row(1, -1), "k[1]", failing(NULL));
        with(10, 6, row(1, -1), "l[0]", 20);
        with(10, 7, row(1), "l[0]", failing(CAST));
        with(6, 3, row(65535), "h[0]", 65535);
        with(1, 1, row(Integer.MIN_VALUE), "b[0]", Integer.MIN_VALUE);
        with(2, 2, row(Long.MIN_VALUE), "c[0]", Long.MIN_VALUE);
    }

    /** Two 16 bits over, and what is cut off. */
    private static void itemsCutTo32() {
        due.promise(24, "item e (cut to 32 bits)");
        with(1, 1, row(7, 8, 9), "b[65536*65536]", 7);
        with(1, 1, row(7, 8, 9), "b[65536*65536+2]", 9);
        with(1, 1, row(7, 8, 9), "b[65536*65536+3]", failing(INDEX));
        with(1, 1, row(7, 8, 9), "b[65536*65536-1]", failing(INDEX));
        with(1, 1, row(7, 8, 9), "b[-65536*65536]", 7);
        with(1, 1, row(7, 8, 9), "b[1-65536*65536]", 8);
        with(1, 1, row(7, 8, 9), "b[65536*32768]", failing(INDEX));
        with(1, 1, row(7, 8, 9), "b[65536*65536*65536*32768]", 7);
        with(1, 1, row(7, 8, 9), "b[65536*65536*65536*32768-1]", failing(INDEX));
        with(7, 4, row(2, 2), "i[65536*65536+1,65536*65536+1]", 12);
        with(7, 4, row(2, 2), "total i[65536*65536+1]", 14);
    }

    private static void cells() {
        due.promise(24, "NAME [ e , f ]: item f of row e");
        long[] rows = {2, 0, -1, 6, 1, 1};
        with(7, 4, rows, "i[0,0]", 1);
        with(7, 4, rows, "i[0,1]", 2);
        with(7, 4, rows, "i[0,2]", failing(INDEX));
        with(7, 4, rows, "i[0,-1]", failing(INDEX));
        with(7, 4, rows, "i[1,0]", failing(INDEX));
        with(7, 4, rows, "i[2,0]", failing(NULL));
        with(7, 4, rows, "i[2,-1]", failing(NULL));
        with(7, 4, rows, "i[3,5]", 36);
        with(7, 4, rows, "i[3,6]", failing(INDEX));
        with(7, 4, rows, "i[5,0]", 51);
        with(7, 4, rows, "i[6,0]", failing(INDEX));
        with(7, 4, rows, "i[-1,0]", failing(INDEX));
        with(7, 4, row(), "i[0,0]", failing(INDEX));
        FormMill mill = office("i[0,0]-i[0,1]");
        Due.rows(mill, new int[] {Integer.MIN_VALUE, Integer.MAX_VALUE});
        mill.give(0, 7);
        worth(mill, "i[0,0]-i[0,1]", -(1L << 32) + 1);
    }

    private static void workedFirst() {
        due.promise(24, "e is worked, then item e of it; both are worked, then the answer is taken as rows");
        plain("b[1/0]", failing(DIVIDE));
        plain("b[1/0,b]", failing(DIVIDE));
        plain("b[b,1/0]", failing(NULL));
        plain("b[0,1/0]", failing(DIVIDE));
        plain("total b[1/0]", failing(DIVIDE));
        with(1, 0, row(1), "b[1/0]", failing(DIVIDE));
        with(1, 0, row(1), "b[0,1/0]", failing(DIVIDE));
        with(1, 0, row(1), "total b[1/0]", failing(DIVIDE));
        with(7, 4, row(1), "i[9,1/0]", failing(DIVIDE));
        with(7, 4, row(-1), "i[0,1/0]", failing(DIVIDE));
        with(1, 1, row(3, 1, 5, 2), "b[b[b[0]]]", 5);
        with(1, 1, row(3, 1, 5, 2), "b[b[1]+b[1]]", 5);
    }

    // ---- len, total

    private static void lengths() {
        due.promise(24, "len: how many items of it taken AS");
        for (int kind = 0; kind <= 10; kind++) {
            int most = AS[kind] == 4 ? 6 : 12;
            for (int n : new int[] {0, 1, most}) {
                with(kind, AS[kind], new long[n], "len " + NAMES.charAt(kind), n);
            }
        }
        with(8, 6, row(-1, -1), "len j", 2);
        with(9, 5, row(1), "len k", failing(CAST));
        with(9, 5, row(), "len k", failing(CAST));
        with(10, 6, row(1, 1, 1), "len l", 3);
    }

    private static void totals() {
        due.promise(24, "total: the sum of all its items");
        for (int kind = 0; kind <= 10; kind++) {
            with(kind, AS[kind], row(), "total " + NAMES.charAt(kind), 0);
        }
        with(0, 0, row(1, 0, 1, 1), "total a", 3);
        with(5, 0, row(0, 0), "total g", 0);
        with(1, 1, row(-5, 3), "total b", -2);
        with(6, 3, row(65535, 1), "total h", 65536);
        with(7, 4, row(2, 0, 1), "total i", 1 + 2 + 21);
        with(7, 4, row(0, 0), "total i", 0);
        with(7, 4, row(2, -1), "total i", failing(NULL));
        with(7, 4, row(-1, 2), "total i", failing(NULL));
        with(8, 5, row(0, 1, 0), "total j", 40);
        with(8, 5, row(0, -1), "total j", failing(NULL));
        with(8, 6, row(1, 1), "total j", 40);
        with(9, 6, row(-1), "total k", failing(NULL));
        with(10, 5, row(0, 1), "total l", 30);
    }

    private static void columns() {
        due.promise(24, "total NAME [ e ]: as rows: the sum of item e of each");
        with(7, 4, row(), "total i[0]", 0);
        with(7, 4, row(), "total i[-1]", 0);
        with(7, 4, row(2, 6, 1), "total i[0]", 1 + 11 + 21);
        with(7, 4, row(2, 6, 1), "total i[1]", failing(INDEX));
        with(7, 4, row(2, 6, 2), "total i[1]", 2 + 12 + 22);
        with(7, 4, row(6, 6, 6, 6, 6, 6), "total i[5]", 6 + 16 + 26 + 36 + 46 + 56);
        with(7, 4, row(6, 6, 6, 6, 6, 6), "total i[6]", failing(INDEX));
        with(7, 4, row(2, 2), "total i[-1]", failing(INDEX));
        with(7, 4, row(1, -1), "total i[1]", failing(INDEX));
        with(7, 4, row(-1, 1), "total i[1]", failing(NULL));
        with(7, 4, row(2, -1), "total i[1]", failing(NULL));
    }

    // ---- has, is, or, and, not, try

    private static void hasAndIs() {
        due.promise(24, "has: 1, if it is not NOTHING; is: 1, if it is an OBJECT of this SORT (signeds are entries, too), else 0 (also NOTHING)");
        String[] sorts = {"truths", "wholes", "moneys", "letters", "rows", "entries", "signeds", "one"};
        for (int wanted = 0; wanted <= 7; wanted++) {
            plain("is " + sorts[wanted] + " a", 0);
            for (int sort = 0; sort <= 7; sort++) {
                with(0, sort, sort == 7 ? row(0) : row(), "is " + sorts[wanted] + " a", isTaken(sort, wanted) ? 1 : 0);
            }
        }
        plain("has a", 0);
        for (int sort = 0; sort <= 7; sort++) {
            with(0, sort, sort == 7 ? row(0) : row(), "has a", 1);
        }
        with(1, 1, row(5), "2*is wholes b+1", 3);
        with(1, 1, row(5), "2*is truths b+1", 1);
        with(1, 1, row(5), "2*has b+len b", 3);
        FormMill mill = office("has a");
        Due.give(mill, 0, 0, 0, 1);
        mill.give(0, 0);
        worth(mill, "has a, where NOTHING was given", 0);
    }

    private static void orAndNot() {
        due.promise(24, "or, and: 1 or 0, by what is not 0; the right one is worked only if the left one does not tell already");
        long[] values = {0, 1, -1, 5, 1L << 32, Long.MIN_VALUE};
        for (long v : values) {
            for (long w : values) {
                with(2, 2, row(v, w), "c or c[1]", v != 0 || w != 0 ? 1 : 0);
                with(2, 2, row(v, w), "c and c[1]", v != 0 && w != 0 ? 1 : 0);
            }
            with(2, 2, row(v), "c or 1/0", v != 0 ? 1 : failing(DIVIDE));
            with(2, 2, row(v), "c and 1/0", v == 0 ? 0 : failing(DIVIDE));
            with(2, 2, row(v), "not c", v == 0 ? 1 : 0);
            with(2, 2, row(v), "not not c", v == 0 ? 0 : 1);
        }
        plain("1/0 or 1", failing(DIVIDE));
        plain("1/0 and 0", failing(DIVIDE));
        plain("0 or 1/0 or 1", failing(DIVIDE));
        plain("0 or 1 or 1/0", 1);
        plain("1 and 0 and 1/0", 0);
        plain("0 and 1/0 or 3", 1);
        plain("1 or 1/0 and 1/0", 1);
    }

    private static void tries() {
        due.promise(24, "try a else b: a; where it FAILS, b");
        elses("try 1 else 2", 1, 0, 0);
        elses("try 0 else 2", 0, 0, 0);
        elses("try 1 else (1/0)", 1, 0, 0);
        elses("try (1/0) else 2", 2, 1, 1);
        elses("try a else 2", 2, 1, 1);
        elses("try (1/0) else a", failing(NULL), 2, 1);
        elses("try try (1/0) else a else 3", 3, 2, 2);
        elses("try (1/0) else try a else 4", 4, 2, 2);
        elses("(try a else 1)+(try a else 2)+(try a else 3)", 6, 3, 3);
        elses("100*try (5+(3*a)) else 7+1", 701, 1, 1);
        elses("try b[try a else 9] else 8", 8, 2, 2);
        elses("try (0 and a) else 5", 0, 0, 0);
        elses("try (1 and a) else 5", 5, 1, 1);
        elses("try ".repeat(10) + "a" + " else a".repeat(9) + " else 9", 9, 10, 10);
        elses("try ".repeat(10) + "a" + " else a".repeat(10), failing(NULL), 11, 10);
    }

    private static void elses(String exp, long want, int failures, int elses) {
        FormMill mill = office(exp);
        int answer = mill.figure(0, 0);
        due.is("figure " + exp, answer == 0 ? mill.value() : -1000 - answer, want);
        due.is("FAILURES of " + exp, mill.count(7), failures);
        due.is("told(2) of " + exp, mill.told(2), elses);
    }

    // ---- figures

    private static FormMill rules(String text) {
        FormMill mill = Due.with(text);
        mill.draft(0);
        return mill;
    }

    private static void told(FormMill mill, int worked, int elses, int arose) {
        due.is("told(0)", mill.told(0), worked);
        due.is("told(1)", mill.told(1), worked);
        due.is("told(2)", mill.told(2), elses);
        due.is("told(3)", mill.told(3), arose);
    }

    private static void onceInACall() {
        due.promise(26, "each is worked once in a call, as it is first wanted");
        FormMill mill = rules("form; figure f = 2; figure g = f + f; figure h = g * g + f; figure u = 1 / 0; check 1 h; check 2 g; check 3 f;");
        mill.check(0);
        told(mill, 3, 0, NONE);
        mill.figure(0, 2);
        told(mill, 3, 0, NONE);
        due.is("value()", mill.value(), 18);
        mill.figure(0, 1);
        told(mill, 2, 0, NONE);
        mill.figure(0, 0);
        told(mill, 1, 0, NONE);
        due.is("what is not wanted is not worked", mill.count(7), 0);
        FormMill left = rules("form; figure f = 1 / 0; check 1 1 or f; check 2 not (0 and f);");
        due.is("check(0)", left.check(0), 0);
        told(left, 0, 0, NONE);
        due.is("count(7)", left.count(7), 0);
    }

    private static void metAgain() {
        due.promise(24, "its value, or its FAILURE, stands till the call ends (a FAILURE that is met again is none more)");
        FormMill mill = rules("form; yes a; figure f = a; figure g = (try f else 3) + (try f else 4); check 1 f; check 2 f; check 3 g;");
        due.is("figure(0, 1)", mill.figure(0, 1), 0);
        due.is("value()", mill.value(), 7);
        due.is("count(7)", mill.count(7), 1);
        told(mill, 2, 2, NONE);
        due.is("check(0)", mill.check(0), 2);
        due.is("count(7): one more by the next call", mill.count(7), 2);
        due.is("finding(0, 4)", mill.finding(0, 4), 0);
        due.is("finding(1, 4)", mill.finding(1, 4), 0);
        told(mill, 2, 2, NONE);
        Due.give(mill, 0, 0, 0, 1);
        due.is("figure(0, 1): it stands no longer", mill.figure(0, 1), 0);
        due.is("value()", mill.value(), 2);
        due.is("check(0)", mill.check(0), 0);
        due.is("count(7)", mill.count(7), 2);
    }

    private static void arose() {
        due.promise(22, "A FAILURE AROSE in the innermost FIGURE around it (NONE: in a condition or check itself).");
        FormMill mill = rules("form; yes a when 1 / 0; figure f = a; figure g = 1 + f; figure h = g + 1; figure u = try h else (1 / 0);"
            + " check 1 h; check 2 1 / 0; check 3 u; check 4 g / 0; check 5 0;");
        int[] arose = {0, 0, 0, 3};
        int[] kinds = {NULL, NULL, NULL, DIVIDE};
        for (int figure = 0; figure < 4; figure++) {
            due.is("figure(0, " + figure + ")", mill.figure(0, figure), kinds[figure]);
            due.is("told(3)", mill.told(3), arose[figure]);
        }
        due.is("check(0)", mill.check(0), 6);
        int[] found = {NONE, 0, NONE, 3, 0, NONE};
        for (int i = 0; i < 6; i++) {
            due.is("finding(" + i + ", 4)", mill.finding(i, 4), found[i]);
        }
        due.is("told(3) behind check()", mill.told(3), NONE);
        due.is("a FALSE one", mill.finding(5, 0), 9);
        due.promise(22, "it AROSE where it did, where it is met again, too");
        FormMill again = rules("form; figure a = 1; figure b = 1 / 0; figure c = 2; figure d = a + b; figure e = d % 0; figure f = 1 % 0;"
            + " figure g = try f else b; check 1 f; check 2 b; check 3 f; check 4 e; check 5 d; check 6 g; check 7 1 / 0; check 8 g;");
        due.is("check(0)", again.check(0), 8);
        int[] places = {5, 1, 5, 1, 1, 1, NONE, 1};
        for (int i = 0; i < places.length; i++) {
            due.is("finding(" + i + ", 4)", again.finding(i, 4), places[i]);
        }
        due.is("count(7)", again.count(7), 3);
        due.is("figure(0, 6)", again.figure(0, 6), DIVIDE);
        due.is("told(3)", again.told(3), 1);
    }

    private static void wordsWorkedAndEnded() {
        due.promise(26, "WORKED are all FIGURES that were begun, ENDED those that came to an end in whatever way (a call tells both alike)");
        FormMill mill = rules("form; figure f = 1 / 0; figure g = f; figure h = try g else 1; figure u = g; check 1 u; check 2 h;");
        mill.figure(0, 0);
        told(mill, 1, 0, 0);
        mill.figure(0, 1);
        told(mill, 2, 0, 0);
        mill.figure(0, 2);
        told(mill, 3, 1, NONE);
        mill.check(0);
        told(mill, 4, 1, NONE);
    }

    private static void twelveFigures() {
        due.promise(24, "12 FIGURES, each in the next");
        StringBuilder text = new StringBuilder("form; yes a; figure f0 = a;");
        for (int i = 1; i < 12; i++) {
            text.append("figure f").append(i).append(" = f").append(i - 1).append(" + 1;");
        }
        FormMill mill = rules(text.toString());
        due.is("figure(0, 11)", mill.figure(0, 11), NULL);
        told(mill, 12, 0, 0);
        due.is("count(7)", mill.count(7), 1);
        Due.give(mill, 0, 0, 0, 1);
        due.is("figure(0, 11)", mill.figure(0, 11), 0);
        due.is("value()", mill.value(), 12);
        told(mill, 12, 0, NONE);
        due.is("figure(0, 12)", mill.figure(0, 12), BAD);
        due.is("figure(0, 0)", mill.figure(0, 0), 0);
        told(mill, 1, 0, NONE);
    }

    // ---- promises 23, 25, 26

    private static void shown() {
        due.promise(23, "Whether a PART is SHOWN: 1, 0: its condition, if it has one, is worked and is not 0");
        for (String exp : new String[] {"1", "-1", "2", "65536*65536", "65536*65536*65536*32768"}) {
            due.is("shown by " + exp, rules("form; yes a when " + exp + ";").shown(0, 0), 1);
        }
        for (String exp : new String[] {"0", "-0", "1 - 1", "65536*65536*65536*65536", "1 / 0", "a", "has a"}) {
            due.is("shown by " + exp, rules("form; yes a when " + exp + ";").shown(0, 0), 0);
        }
        FormMill mill = rules("form; yes a; group g { yes b; } group h when 0 { yes c; }");
        int[] want = {1, 1, 1, 0, 0};
        for (int p = 0; p < 5; p++) {
            due.is("shown(0, " + p + ")", mill.shown(0, p), want[p]);
        }
        due.is("shown(0, 5)", mill.shown(0, 5), BAD);
        due.is("shown(0, -1)", mill.shown(0, -1), BAD);
    }

    private static void shownFromOutside() {
        due.promise(23, "(the conditions of its groups and its own alone are worked, from outside on)");
        // Eight groups, of which one is not shown or fails: those inside it are not worked. At 9 none stops it.
        for (int stop = 0; stop <= 9; stop++) {
            for (String exp : new String[] {"0", "1/0"}) {
                StringBuilder text = new StringBuilder("form; yes y when 1/0; group z when 1/0 {}");
                for (int i = 0; i < 8; i++) {
                    text.append("group g").append(i).append(" when ").append(i < stop ? "try a else 1" : i == stop ? exp : "1/0").append("{");
                }
                text.append("yes a when ").append(stop > 8 ? "try a else 1" : stop == 8 ? exp : "1/0").append(";").append("}".repeat(8));
                FormMill mill = rules(text.toString());
                due.is("shown(0, 10), stopped at " + stop + " by " + exp, mill.shown(0, 10), stop > 8 ? 1 : 0);
                due.is("told(2)", mill.told(2), stop);
                due.is("count(7)", mill.count(7), stop > 8 ? 9 : stop + (exp.equals("0") ? 0 : 1));
                due.is("shown(0, 2)", mill.shown(0, 2), stop > 0 ? 1 : 0);
            }
        }
    }

    private static void valueStays() {
        due.promise(25, "The value of the latest figure() that answered 0; 0 before.");
        FormMill mill = rules("form; figure f = 1 / 0; figure g = 0 - 5; figure h = 0;");
        due.is("value() before", mill.value(), 0);
        mill.figure(0, 0);
        due.is("value() behind a FAILURE", mill.value(), 0);
        mill.figure(0, 1);
        due.is("value()", mill.value(), -5);
        mill.figure(0, 0);
        mill.figure(0, 3);
        mill.figure(1, 0);
        mill.check(0);
        mill.shown(0, 0);
        due.is("value() stays", mill.value(), -5);
        mill.figure(0, 2);
        due.is("value() of 0", mill.value(), 0);
        FormMill failed = Failing.upTo(9999);
        Due.form(failed, "form; figure f = 6;");
        failed.draft(2);
        due.is("figure(2, 0)", failed.figure(2, 0), 0);
        failed.figure(0, 0);
        due.is("figure(2, 0): FULL", failed.figure(2, 0), FormMill.FULL);
        due.is("value() stays", failed.value(), 6);
    }

    private static void toldAheadOfAny() {
        due.promise(26, "Ahead of any 0, 0, 0, NONE. BAD.");
        told(new FormMill(), 0, 0, NONE);
        FormMill mill = rules("form; until 5; yes a; figure f = try (1 / 0) else 1; figure g = f + 1 / 0; check 1 f;");
        told(mill, 0, 0, NONE);
        for (int what : new int[] {-1, 4, Integer.MIN_VALUE, Integer.MAX_VALUE}) {
            due.is("told(" + what + ")", mill.told(what), BAD);
        }
        mill.figure(0, 1);
        told(mill, 2, 1, 1);
        // What does not work, or is none of the four, leaves it.
        mill.check(1);
        mill.figure(0, 2);
        mill.shown(0, 1);
        mill.submit(0, 6);
        mill.submit(0, 10000);
        mill.stats(0, 0, 1);
        mill.shortest(0, 1);
        mill.migrate(0, 0);
        told(mill, 2, 1, 1);
        mill.shown(0, 0);
        told(mill, 0, 0, NONE);
        mill.figure(0, 1);
        mill.submit(0, 5);
        told(mill, 1, 1, NONE);
        mill.figure(0, 1);
        mill.submit(0, 5);
        told(mill, 2, 1, 1);
        mill.check(0);
        told(mill, 1, 1, NONE);
    }
}
