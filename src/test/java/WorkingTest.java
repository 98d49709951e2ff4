/** Promises 21 to 26: findings, what is shown, figures. */
public final class WorkingTest {
    private static final Due due = new Due("WorkingTest");
    private static final int NONE = FormMill.NONE;
    private static final int NULL = 1, CAST = 2, INDEX = 3, DIVIDE = 4, LACK = 7, RANGE = 8, FALSE = 9;

    public static void main(String[] args) {
        check();
        singles();
        manies();
        texts();
        tables();
        lists();
        entries();
        sorts();
        conditions();
        finding();
        shown();
        reckoning();
        logic();
        names();
        items();
        totals();
        asking();
        figure();
        figuresOnce();
        chain();
        tries();
        told();
        full();
        due.end();
    }

    /** An office with one form, one draft of it, and entries 0 (10, not signed) and 1 (20, signed). */
    private static FormMill office(String text) {
        FormMill mill = Due.with(text);
        mill.entry(1, 10, NONE);
        mill.entry(2, 20, 5);
        mill.draft(0);
        return mill;
    }

    /** What is found at part 0 alone, with the desk's object as its answer. */
    private static void found(FormMill mill, String call, int kind) {
        int before = mill.count(7);
        mill.give(0, 0);
        due.is("check(0) of " + call, mill.check(0), kind == 0 ? 0 : 1);
        if (kind != 0) {
            due.is("finding(0, 0) of " + call, mill.finding(0, 0), kind);
            due.is("finding(0, 1) of " + call, mill.finding(0, 1), 0);
        }
        due.is("failures of " + call, mill.count(7) - before, kind > 0 && kind < LACK ? 1 : 0);
    }

    private static void found(FormMill mill, int kind, int sort, long... items) {
        Due.hold(mill, sort, items);
        found(mill, "sort " + sort + " " + java.util.Arrays.toString(items), kind);
    }

    private static void check() {
        due.promise(21, "check");
        FormMill mill = office("form; must yes a; yes b; must text c 3; group g { must entry d; } check 4 1; check 5 0;");
        due.is("check(1)", mill.check(1), FormMill.BAD);
        due.is("check(-1)", mill.check(-1), FormMill.BAD);
        due.is("check(0)", mill.check(0), 4);
        int[] parts = {0, 2, 4, NONE};
        for (int i = 0; i < 4; i++) {
            due.is("finding(" + i + ", 0)", mill.finding(i, 0), i < 3 ? LACK : FALSE);
            due.is("finding(" + i + ", 1)", mill.finding(i, 1), parts[i]);
        }
        due.is("a lack is no failure", mill.count(7), 0);
        FormMill bare = office("form;");
        due.is("check(0)", bare.check(0), 0);
    }

    private static void singles() {
        due.promise(21, "check: yes, whole, date, choice, money");
        FormMill yes = office("form; yes a;");
        found(yes, 0, 0, 0);
        found(yes, 0, 0, 1);
        found(yes, INDEX, 0);
        found(yes, RANGE, 0, 1, 0);
        found(yes, CAST, 1, 1);
        for (String kind : new String[] {"whole a 3 7", "date a 3 7"}) {
            FormMill mill = office("form; " + kind + ";");
            found(mill, 0, 1, 3);
            found(mill, 0, 1, 7);
            found(mill, RANGE, 1, 2);
            found(mill, RANGE, 1, 8);
            found(mill, RANGE, 1, 5, 5);
            found(mill, INDEX, 1);
            found(mill, CAST, 2, 5);
        }
        FormMill choice = office("form; choice a 3;");
        found(choice, 0, 1, 0);
        found(choice, 0, 1, 2);
        found(choice, RANGE, 1, 3);
        found(choice, RANGE, 1, -1);
        found(choice, RANGE, 1, 0, 0);
        found(choice, INDEX, 1);
        FormMill money = office("form; money a 50;");
        found(money, 0, 2, 0);
        found(money, 0, 2, 50);
        found(money, RANGE, 2, 51);
        found(money, RANGE, 2, -1);
        found(money, RANGE, 2, 1L << 32);
        found(money, RANGE, 2, 1, 1);
        found(money, INDEX, 2);
        found(money, CAST, 1, 5);
    }

    private static void manies() {
        due.promise(21, "check: many");
        FormMill mill = office("form; many a 3 1 2;");
        found(mill, 0, 0, 1, 0, 0);
        found(mill, 0, 0, 0, 1, 1);
        found(mill, RANGE, 0, 0, 0, 0);
        found(mill, RANGE, 0, 1, 1, 1);
        found(mill, INDEX, 0, 1, 0);
        found(mill, INDEX, 0);
        found(mill, RANGE, 0, 1, 0, 0, 0);
        found(mill, CAST, 1, 1, 1, 1);
    }

    private static void texts() {
        due.promise(21, "check: text");
        FormMill mill = office("form; text a 3;");
        found(mill, 0, 3, 32);
        found(mill, 0, 3, 65, 126, 32);
        found(mill, RANGE, 3);
        found(mill, RANGE, 3, 65, 65, 65, 65);
        found(mill, RANGE, 3, 31);
        found(mill, RANGE, 3, 65, 127);
        found(mill, RANGE, 3, 65535);
        found(mill, CAST, 1, 65);
    }

    private static void table(FormMill mill, int kind, int[]... rows) {
        Due.rows(mill, rows);
        found(mill, "rows " + java.util.Arrays.deepToString(rows), kind);
    }

    private static void tables() {
        due.promise(21, "check: table");
        FormMill mill = office("form; table a 2 3;");
        table(mill, 0, new int[2]);
        table(mill, 0, new int[2], new int[2], new int[2]);
        table(mill, RANGE);
        table(mill, RANGE, new int[2], null, new int[1], new int[3]);
        table(mill, NULL, new int[2], null);
        table(mill, INDEX, new int[2], new int[1]);
        table(mill, INDEX, new int[0]);
        table(mill, RANGE, new int[3]);
        table(mill, RANGE, new int[3], null);
        table(mill, NULL, null, new int[3]);
        table(mill, INDEX, new int[1], null);
        found(mill, CAST, 1, 1);
    }

    private static void list(FormMill mill, int kind, int sort, int... entries) {
        Due.seats(mill, sort, entries);
        found(mill, "sort " + sort + " " + java.util.Arrays.toString(entries), kind);
    }

    private static void lists() {
        due.promise(21, "check: list");
        FormMill list = office("form; list a 2;");
        list(list, 0, 5);
        list(list, 0, 5, 0, 1);
        list(list, 0, 6, 1);
        list(list, NULL, 5, 0, -1);
        list(list, NULL, 6, -1);
        list(list, RANGE, 5, 0, -1, 0);
        list.desk(7, 0);
        found(list, "one", CAST);
        due.promise(21, "check: signed");
        FormMill signed = office("form; signed a 2;");
        list(signed, 0, 6);
        list(signed, 0, 6, 1, 1);
        list(signed, NULL, 6, 1, -1);
        list(signed, RANGE, 6, -1, 1, 1);
        list(signed, CAST, 5, 1);
        list(signed, CAST, 5);
    }

    private static void entries() {
        due.promise(21, "check: entry");
        FormMill mill = office("form; entry a;");
        mill.desk(7, 0);
        found(mill, "one", 0);
        mill.desk(7, 1);
        found(mill, "one that is signed", 0);
        list(mill, CAST, 5, 0);
        list(mill, CAST, 6, 1);
        found(mill, CAST, 1, 1);
    }

    /** For each kind, which sorts it takes. */
    private static void sorts() {
        due.promise(21, "check: sorts");
        String[] kinds = {"yes a", "whole a 0 9", "money a 9", "date a 0 9", "choice a 2", "many a 1 0 1", "text a 9", "table a 1 6",
            "list a 8", "signed a 8", "entry a"};
        String[] taken = {"0", "1", "2", "1", "1", "0", "3", "4", "56", "6", "7"};
        for (int k = 0; k < kinds.length; k++) {
            FormMill mill = office("form; " + kinds[k] + ";");
            for (int sort = 0; sort <= 7; sort++) {
                mill.desk(sort, 1);
                mill.give(0, 0);
                mill.check(0);
                boolean isCast = mill.finding(0, 0) == CAST;
                due.is(kinds[k] + " of sort " + sort, isCast ? 1 : 0, taken[k].indexOf('0' + sort) >= 0 ? 0 : 1);
            }
        }
    }

    private static void conditions() {
        due.promise(21, "check: conditions");
        FormMill mill = office("form; yes a; must whole b 0 9 when a; group g when b > 5 { must text c 2; group h when 1 / (b - 7) { must text d 2; } }"
            + " must text e 2 when has a and not a;");
        due.is("check(0): a is NOTHING", mill.check(0), 2);
        row(mill, 0, NULL, 1, NONE, 0, NONE);
        row(mill, 1, NULL, 2, NONE, 0, NONE);
        Due.give(mill, 0, 0, 0, 1);
        Due.give(mill, 0, 1, 1, 7);
        due.is("check(0): h fails", mill.check(0), 2);
        row(mill, 0, LACK, 3, NONE, 0, NONE);
        row(mill, 1, DIVIDE, 4, NONE, 0, NONE);
        Due.give(mill, 0, 1, 1, 8);
        due.is("check(0): h is shown", mill.check(0), 2);
        row(mill, 0, LACK, 3, NONE, 0, NONE);
        row(mill, 1, LACK, 5, NONE, 0, NONE);
        Due.give(mill, 0, 1, 1, 9);
        due.is("check(0): h is not shown", mill.check(0), 1);
        Due.give(mill, 0, 1, 1, 5);
        int before = mill.count(7);
        due.is("check(0): g is not shown, and no condition in it is worked", mill.check(0), 0);
        due.is("count(7)", mill.count(7), before);
        Due.give(mill, 0, 0, 0, 0);
        due.is("check(0): e is shown", mill.check(0), 1);
        row(mill, 0, LACK, 6, NONE, 0, NONE);
        Due.give(mill, 0, 1, 3, 65);
        due.is("check(0): b is not looked at, but g's condition takes it", mill.check(0), 2);
        row(mill, 0, CAST, 2, NONE, 0, NONE);
    }

    private static void row(FormMill mill, int i, int what, int part, int check, int message, int arose) {
        int[] want = {what, part, check, message, arose};
        for (int k = 0; k < 5; k++) {
            due.is("finding(" + i + ", " + k + ")", mill.finding(i, k), want[k]);
        }
    }

    private static void finding() {
        due.promise(22, "finding");
        FormMill mill = office("form; must yes a; figure f = 1 / 0; figure g = f + 1; check 30 g; check 40 2; check 50 0; check 60 a; check 0 f; check 7 1 % 0;");
        due.is("finding(0, 0) ahead of any", mill.finding(0, 0), -100);
        due.is("check(0)", mill.check(0), 6);
        for (int round = 0; round < 2; round++) {
            row(mill, 0, LACK, 0, NONE, 0, NONE);
            row(mill, 1, DIVIDE, NONE, 0, 30, 0);
            row(mill, 2, FALSE, NONE, 2, 50, NONE);
            row(mill, 3, NULL, NONE, 3, 60, NONE);
            row(mill, 4, DIVIDE, NONE, 4, 0, 0);
            row(mill, 5, DIVIDE, NONE, 5, 7, NONE);
            // Refusals, and calls that are neither check() nor submit(), leave the findings.
            mill.check(7);
            mill.submit(0, -1);
            mill.figure(0, 0);
            mill.shown(0, 0);
            mill.shortest(0, 1);
        }
        due.is("finding(6, 0)", mill.finding(6, 0), -100);
        due.is("finding(-1, 0)", mill.finding(-1, 0), -100);
        due.is("finding(0, 5)", mill.finding(0, 5), -100);
        due.is("finding(0, -1)", mill.finding(0, -1), -100);
        Due.form(mill, "form; until 5; must text b 1;");
        mill.draft(1);
        due.is("submit(1, 6): LATE, before it works", mill.submit(1, 6), FormMill.LATE);
        due.is("finding(5, 0)", mill.finding(5, 0), DIVIDE);
        due.is("submit(1, 5)", mill.submit(1, 5), -11);
        row(mill, 0, LACK, 0, NONE, 0, NONE);
        due.is("finding(1, 0)", mill.finding(1, 0), -100);
        Due.give(mill, 1, 0, 3, 65);
        due.is("submit(1, 5)", mill.submit(1, 5), 1);
        due.is("finding(0, 0): that one had none", mill.finding(0, 0), -100);
        due.is("check(0)", mill.check(0), 6);
        due.is("submit(1, 5): STATE, before it works", mill.submit(1, 5), FormMill.STATE);
        due.is("finding(5, 0)", mill.finding(5, 0), DIVIDE);
    }

    private static void shown() {
        due.promise(23, "shown");
        FormMill mill = office("form; yes a; text x 1 when 1 / 0; group g when a { group h when not a[1] { text b 1 when a[2]; } } text c 1; text d 1 when 5; text e 1 when 0;");
        due.is("shown(1, 0)", mill.shown(1, 0), FormMill.BAD);
        due.is("shown(-1, 0)", mill.shown(-1, 0), FormMill.BAD);
        due.is("shown(0, 8)", mill.shown(0, 8), FormMill.BAD);
        due.is("shown(0, -1)", mill.shown(0, -1), FormMill.BAD);
        due.is("shown(0, 0): no condition", mill.shown(0, 0), 1);
        due.is("shown(0, 5)", mill.shown(0, 5), 1);
        due.is("shown(0, 6)", mill.shown(0, 6), 1);
        due.is("shown(0, 7)", mill.shown(0, 7), 0);
        due.is("no failure: others are not worked", mill.count(7), 0);
        due.is("shown(0, 1): it fails", mill.shown(0, 1), 0);
        due.is("count(7)", mill.count(7), 1);
        due.is("shown(0, 4): its outer group fails, once", mill.shown(0, 4), 0);
        due.is("count(7)", mill.count(7), 2);
        long[][] truths = {{0, 0, 1}, {1, 1, 1}, {1, 0, 0}, {1, 0, 1}, {1}, {1, 0}};
        int[][] want = {{0, 0, 0}, {1, 0, 0}, {1, 1, 0}, {1, 1, 1}, {1, 0, 0}, {1, 1, 0}};
        int[] failures = {0, 0, 0, 0, 2, 1};
        for (int i = 0; i < truths.length; i++) {
            Due.give(mill, 0, 0, 0, truths[i]);
            int before = mill.count(7);
            for (int p = 2; p <= 4; p++) {
                due.is("shown(0, " + p + ") by " + i, mill.shown(0, p), want[i][p - 2]);
            }
            due.is("failures by " + i, mill.count(7) - before, failures[i]);
        }
        FormMill wide = office("form; group g when 0 { text a 1; text b 1 when 1 / 0; } text c 1 when - 3;");
        due.is("shown(0, 1)", wide.shown(0, 1), 0);
        due.is("shown(0, 2): its condition is not worked", wide.shown(0, 2), 0);
        due.is("count(7)", wide.count(7), 0);
        due.is("shown(0, 3)", wide.shown(0, 3), 1);
    }

    /** A form with all kinds of parts, whose figure f is what is asked for. */
    private static final String KINDS =
        "form; yes a; whole b 0 9; money c 9; date d 0 9; choice e 2; many g 2 0 2; text h 9; table i 2 6; list j 8; signed k 8; entry l;";

    /** What a figure is worth, with one answer; a failure is told as -1000 less its kind. */
    private static void worth(String exp, long want, int part, int sort, long... items) {
        FormMill mill = office(KINDS + "figure f = " + exp + ";");
        if (part >= 0) {
            Due.give(mill, 0, part, sort, items);
        }
        worthOf(mill, exp, want);
    }

    private static void worthOf(FormMill mill, String exp, long want) {
        int failure = mill.figure(0, 0);
        due.is("figure " + exp, failure == 0 ? mill.value() : -1000 - failure, want);
        due.is("failures of " + exp, mill.count(7), failure == 0 ? 0 : 1);
    }

    private static void plain(String exp, long want) {
        worth(exp, want, -1, 0);
    }

    private static void failing(String exp, int kind) {
        worth(exp, -1000 - kind, -1, 0);
    }

    private static void reckoning() {
        due.promise(24, "figure: reckoning");
        plain("7", 7);
        plain("2 + 3 * 4", 14);
        plain("(2 + 3) * 4", 20);
        plain("10 - 4 - 3", 3);
        plain("100 / 7 / 2", 7);
        plain("100 / (7 / 2)", 33);
        plain("- 7 / 2", -3);
        plain("- 7 % 2", -1);
        plain("7 % - 4", 3);
        plain("17 % 5 * 2", 4);
        plain("2 * - 3", -6);
        plain("- - 3", 3);
        plain("- 3 - - 4", 1);
        plain("999999 * 999999", 999998000001L);
        plain("999999 * 999999 * 999999 * 999999", 999999L * 999999 * 999999 * 999999);
        plain("65536 * 65536 * 65536 * 32768", Long.MIN_VALUE);
        plain("65536 * 65536 * 65536 * 32768 - 1", Long.MAX_VALUE);
        plain("65536 * 65536 * 65536 * 32768 / - 1", Long.MIN_VALUE);
        plain("65536 * 65536 * 65536 * 32768 % - 1", 0);
        plain("- (65536 * 65536 * 65536 * 32768)", Long.MIN_VALUE);
        failing("1 / 0", DIVIDE);
        failing("1 % 0", DIVIDE);
        failing("0 / 0", DIVIDE);
        failing("1 / (3 - 3) + a", DIVIDE);
        failing("a + 1 / 0", NULL);
        plain("1 = 1", 1);
        plain("1 = 2", 0);
        plain("1 < 2", 1);
        plain("2 < 2", 0);
        plain("3 > 2", 1);
        plain("2 > 2", 0);
        plain("- 1 < 0", 1);
        plain("1 + 1 = 4 / 2", 1);
        plain("(1 = 1) + (2 > 1)", 2);
        plain("999999 * 999999 * 100 > 1", 1);
    }

    private static void logic() {
        due.promise(24, "figure: or, and, not");
        plain("5 or 0", 1);
        plain("0 or 7", 1);
        plain("0 or 0", 0);
        plain("0 or - 1", 1);
        plain("5 and 7", 1);
        plain("5 and 0", 0);
        plain("0 and 5", 0);
        plain("not 0", 1);
        plain("not 5", 0);
        plain("not not 5", 1);
        plain("1 or 0 and 0", 1);
        plain("(1 or 0) and 0", 0);
        plain("0 or 0 or 3", 1);
        plain("1 and 2 and 3", 1);
        plain("1 or 1 / 0", 1);
        plain("0 and 1 / 0", 0);
        failing("0 or 1 / 0", DIVIDE);
        failing("1 and 1 / 0", DIVIDE);
        failing("1 / 0 or 1", DIVIDE);
        failing("1 / 0 and 0", DIVIDE);
        plain("0 and 1 / 0 or 1", 1);
        plain("1 or 1 / 0 and 1 / 0", 1);
        plain("0 and 1 / 0 and 1 / 0", 0);
        plain("1 + (5 or 1 / 0) * 2", 3);
        plain("not 1 = 0", 1);
        plain("not 0 and 1 < 2", 1);
    }

    private static void names() {
        due.promise(24, "figure: NAME of a part");
        String names = "abcdeghijkl";
        for (int p = 0; p < names.length(); p++) {
            failing("" + names.charAt(p), NULL);
        }
        worth("a", 1, 0, 0, 1);
        worth("a", 0, 0, 0, 0, 1);
        worth("a", -1000 - INDEX, 0, 0);
        worth("a", -1000 - CAST, 0, 1, 1);
        worth("b", -5, 1, 1, -5, 6);
        worth("b", -1000 - INDEX, 1, 1);
        worth("b", -1000 - CAST, 1, 2, 1);
        worth("c", Long.MIN_VALUE, 2, 2, Long.MIN_VALUE);
        worth("c", -1000 - INDEX, 2, 2);
        worth("c", -1000 - CAST, 2, 1, 1);
        worth("d", 7, 3, 1, 7);
        worth("e", 9, 4, 1, 9);
        worth("g", 2, 5, 0, 1, 0, 1);
        worth("g", 0, 5, 0);
        worth("g", -1000 - CAST, 5, 1, 1);
        worth("h", 2, 6, 3, 65, 66);
        worth("h", 0, 6, 3);
        worth("h", -1000 - CAST, 6, 1, 1);
        seated("j", 2, 8, 5, 0, -1);
        seated("j", 1, 8, 6, 1);
        seated("k", 2, 9, 6, 1, -1);
        seated("k", -1000 - CAST, 9, 5, 1);
        seated("l", -1000 - CAST, 10, 5, 1);
        FormMill rows = office(KINDS + "figure f = i;");
        Due.rows(rows, null, new int[2], null);
        rows.give(0, 7);
        worthOf(rows, "i", 3);
        one("l", 10, 10, 0);
        one("l", 20, 10, 1);
        one("j", -1000 - CAST, 8, 1);
    }

    private static void seated(String exp, long want, int part, int sort, int... entries) {
        FormMill mill = office(KINDS + "figure f = " + exp + ";");
        Due.seats(mill, sort, entries);
        mill.give(0, part);
        worthOf(mill, exp, want);
    }

    private static void tabled(String exp, long want, int[]... rows) {
        FormMill mill = office(KINDS + "figure f = " + exp + ";");
        Due.rows(mill, rows);
        mill.give(0, 7);
        worthOf(mill, exp, want);
    }

    private static void one(String exp, long want, int part, int entry) {
        FormMill mill = office(KINDS + "figure f = " + exp + ";");
        mill.desk(7, entry);
        mill.give(0, part);
        worthOf(mill, exp, want);
    }

    private static void items() {
        due.promise(24, "figure: NAME [ e ], NAME [ e , f ]");
        worth("a[1]", 1, 0, 0, 0, 5);
        worth("b[2 - 1]", 8, 1, 1, 7, 8);
        worth("b[2]", -1000 - INDEX, 1, 1, 7, 8);
        worth("b[- 1]", -1000 - INDEX, 1, 1, 7, 8);
        worth("b[65536 * 65536 + 1]", 8, 1, 1, 7, 8);
        worth("b[65536 * 32768]", -1000 - INDEX, 1, 1, 7, 8);
        worth("c[0]", 1L << 40, 2, 2, 1L << 40);
        worth("g[1]", 1, 5, 0, 0, 1);
        worth("h[0]", 65535, 6, 3, -1);
        worth("b[0]", -1000 - CAST, 1, 2, 7);
        worth("b[5]", -1000 - CAST, 1, 2, 7);
        failing("b[0]", NULL);
        failing("b[1 / 0]", DIVIDE);
        failing("b[b[0]]", NULL);
        worth("b[b[b[0]]]", 5, 1, 1, 1, 2, 5);
        seated("j[0]", 10, 8, 5, 0, 1);
        seated("j[1]", 20, 8, 6, 1, 1);
        seated("j[1]", -1000 - NULL, 8, 5, 0, -1);
        seated("j[2]", -1000 - INDEX, 8, 5, 0, -1);
        seated("k[0]", -1000 - CAST, 9, 5, 1);
        seated("l[0]", 20, 10, 5, 1);
        seated("l[0]", 20, 10, 6, 1);
        one("l[0]", -1000 - CAST, 10, 1);
        tabled("i[0]", 2, new int[2], null);
        tabled("i[1]", -1000 - NULL, new int[2], null);
        tabled("i[2]", -1000 - INDEX, new int[2], null);
        tabled("i[1, 2]", 6, new int[2], new int[] {4, 5, 6});
        tabled("i[1, 3]", -1000 - INDEX, new int[2], new int[] {4, 5, 6});
        tabled("i[1, - 1]", -1000 - INDEX, new int[2], new int[] {4, 5, 6});
        tabled("i[2, 0]", -1000 - INDEX, new int[2], null);
        tabled("i[- 1, 0]", -1000 - INDEX, new int[2], null);
        tabled("i[1, 0]", -1000 - NULL, new int[2], null);
        tabled("i[9, 1 / 0]", -1000 - DIVIDE, new int[2], null);
        tabled("i[65536 * 65536, 65536 * 65536 + 1]", -8, new int[] {-7, -8});
        failing("i[0, 0]", NULL);
        failing("i[1 / 0, b]", DIVIDE);
        failing("i[b, 1 / 0]", NULL);
        worth("b[0, 0]", -1000 - CAST, 1, 1, 5);
        worth("i[0, 0]", -1000 - CAST, 7, 1, 5);
        FormMill rows = office(KINDS + "figure f = b[0, 1];");
        Due.rows(rows, new int[] {3, 4});
        rows.give(0, 1);
        worthOf(rows, "b[0, 1] of rows", 4);
    }

    private static void totals() {
        due.promise(24, "figure: total, len");
        worth("total a", 2, 0, 0, 1, 0, 1);
        worth("total b", 4294967294L, 1, 1, Integer.MAX_VALUE, Integer.MAX_VALUE);
        worth("total b", 0, 1, 1);
        worth("total c", Long.MIN_VALUE, 2, 2, Long.MAX_VALUE, 1);
        worth("total h", 65535 + 66, 6, 3, -1, 66);
        worth("total h", -1000 - CAST, 6, 1, -1, 66);
        failing("total h", NULL);
        seated("total j", 30, 8, 5, 0, 1);
        seated("total j", 40, 8, 6, 1, 1);
        seated("total j", -1000 - NULL, 8, 5, 0, -1);
        seated("total k", -1000 - CAST, 9, 5);
        seated("total l", 30, 10, 5, 0, 1);
        one("total l", -1000 - CAST, 10, 0);
        tabled("total i", 10, new int[] {1, 2}, new int[0], new int[] {7});
        tabled("total i", -1000 - NULL, new int[] {1, 2}, null);
        tabled("total i", 4294967294L, new int[] {Integer.MAX_VALUE, Integer.MAX_VALUE});
        tabled("total i[1]", 6, new int[] {1, 2}, new int[] {3, 4});
        tabled("total i[1]", -1000 - INDEX, new int[] {1, 2}, new int[] {3}, null);
        tabled("total i[1]", -1000 - NULL, new int[] {1, 2}, null, new int[] {3});
        tabled("total i[- 1]", -1000 - INDEX, new int[] {1, 2});
        tabled("total i[65536 * 65536 + 1]", 2, new int[] {1, 2});
        tabled("total i[9]", 0);
        failing("total i[0]", NULL);
        failing("total i[1 / 0]", DIVIDE);
        worth("total b[0]", -1000 - CAST, 1, 1, 5);
        worth("total i[0]", -1000 - CAST, 7, 1, 5);
        worth("len b", 2, 1, 1, 5, 6);
        worth("len a", 0, 0, 0);
        worth("len g", 3, 5, 0, 0, 0, 1);
        worth("len b", -1000 - CAST, 1, 0, 1);
        failing("len b", NULL);
        seated("len j", 2, 8, 6, 1, -1);
        seated("len k", -1000 - CAST, 9, 5, 1, -1);
        seated("len l", 2, 10, 5, 0, -1);
        one("len l", -1000 - CAST, 10, 0);
        tabled("len i", 3, null, new int[1], null);
    }

    private static void asking() {
        due.promise(24, "figure: has, is");
        String[] sorts = {"truths", "wholes", "moneys", "letters", "rows", "entries", "signeds", "one"};
        for (int wanted = 0; wanted < 8; wanted++) {
            FormMill mill = office(KINDS + "figure f = is " + sorts[wanted] + " h; figure g2 = has h;");
            mill.figure(0, 0);
            due.is("is " + sorts[wanted] + " of NOTHING", mill.value(), 0);
            mill.figure(0, 1);
            due.is("has of NOTHING", mill.value(), 0);
            for (int sort = 0; sort < 8; sort++) {
                mill.desk(sort, 1);
                mill.give(0, 6);
                due.is("figure(0, 0)", mill.figure(0, 0), 0);
                due.is("is " + sorts[wanted] + " of sort " + sort, mill.value(), sort == wanted || sort == 6 && wanted == 5 ? 1 : 0);
                due.is("figure(0, 1)", mill.figure(0, 1), 0);
                due.is("has of sort " + sort, mill.value(), 1);
            }
            due.is("no failures", mill.count(7), 0);
        }
    }

    private static void figure() {
        due.promise(24, "figure");
        FormMill mill = office("form; whole a 0 9; figure f = a + 1; figure g = f * f; figure h = 5 / a;");
        due.is("figure(1, 0)", mill.figure(1, 0), FormMill.BAD);
        due.is("figure(-1, 0)", mill.figure(-1, 0), FormMill.BAD);
        due.is("figure(0, 3)", mill.figure(0, 3), FormMill.BAD);
        due.is("figure(0, -1)", mill.figure(0, -1), FormMill.BAD);
        due.promise(25, "value");
        due.is("value() ahead of any", mill.value(), 0);
        due.is("figure(0, 0)", mill.figure(0, 0), NULL);
        due.is("value()", mill.value(), 0);
        Due.give(mill, 0, 0, 1, 4);
        due.is("figure(0, 1)", mill.figure(0, 1), 0);
        due.is("value()", mill.value(), 25);
        Due.give(mill, 0, 0, 1, 0);
        due.is("figure(0, 2)", mill.figure(0, 2), DIVIDE);
        due.is("value() stays", mill.value(), 25);
        due.is("figure(0, 5)", mill.figure(0, 5), FormMill.BAD);
        due.is("check(0)", mill.check(0), 0);
        due.is("value() stays", mill.value(), 25);
        due.is("figure(0, 0)", mill.figure(0, 0), 0);
        due.is("value()", mill.value(), 1);
    }

    private static void figuresOnce() {
        due.promise(24, "figure: once in a call");
        FormMill mill = office("form; text a 9; figure f = a; figure g = try f else 1; figure h = try f else try (g + f) else f; check 1 f; check 2 f; check 3 g; check 4 h;");
        due.is("figure(0, 0)", mill.figure(0, 0), NULL);
        due.is("count(7)", mill.count(7), 1);
        due.is("figure(0, 2)", mill.figure(0, 2), NULL);
        due.is("a failure that is met again is none more", mill.count(7), 2);
        due.is("told(0)", mill.told(0), 3);
        due.is("told(2)", mill.told(2), 3);
        due.is("told(3): arose in f", mill.told(3), 0);
        due.is("check(0)", mill.check(0), 3);
        due.is("count(7)", mill.count(7), 3);
        row(mill, 0, NULL, NONE, 0, 1, 0);
        row(mill, 1, NULL, NONE, 1, 2, 0);
        row(mill, 2, NULL, NONE, 3, 4, 0);
        due.is("told(0)", mill.told(0), 3);
        due.is("told(1)", mill.told(1), 3);
        Due.give(mill, 0, 0, 3, 65);
        due.is("figure(0, 2): anew in the next call", mill.figure(0, 2), 0);
        due.is("value()", mill.value(), 1);
    }

    /** Twelve figures, each of which wants the one ahead of it. */
    private static void chain() {
        due.promise(24, "figure: in figures");
        StringBuilder text = new StringBuilder("form; whole a 0 9; figure f0 = a + 1;");
        for (int i = 1; i < 12; i++) {
            text.append("figure f").append(i).append(" = f").append(i - 1).append(" + 2 * f").append(i / 2).append(";");
        }
        FormMill mill = office(text + "check 5 f11;");
        due.is("check(0)", mill.check(0), 1);
        row(mill, 0, NULL, NONE, 0, 5, 0);
        told(mill, "check(0)", 12, 0, NONE);
        due.is("count(7)", mill.count(7), 1);
        Due.give(mill, 0, 0, 1, 0);
        long[] want = new long[12];
        for (int i = 0; i < 12; i++) {
            want[i] = i == 0 ? 1 : want[i - 1] + 2 * want[i / 2];
            due.is("figure(0, " + i + ")", mill.figure(0, i), 0);
            due.is("value()", mill.value(), want[i]);
            due.is("told(0)", mill.told(0), i + 1);
        }
        due.is("check(0)", mill.check(0), 0);
    }

    private static void tries() {
        due.promise(24, "figure: try");
        plain("try 5 else (1 / 0)", 5);
        failing("try 5 else 1 / 0", DIVIDE);
        tried("try (1 / 0) else 7", 7, 1, 1);
        tried("try a else b", -1000 - NULL, 2, 1);
        tried("try try a else b else 3", 3, 2, 2);
        tried("1 + try (2 + 1 / 0) else 7 * 3", 22, 1, 1);
        tried("try (1 + (2 + (3 + a))) else 9 - 4", 5, 1, 1);
        tried("(try a else 1) + (try a else 2)", 3, 2, 2);
        tried("(try a else 4) / 0", -1000 - DIVIDE, 2, 1);
        tried("try ((try a else 4) / 0) else 6", 6, 2, 2);
        tried("try (0 or a) else 5", 5, 1, 1);
        tried("1 or try a else 5", 1, 0, 0);
        tried("try 1 else 2 + a", -1000 - NULL, 1, 0);
        tried("try - a else - 3", -3, 1, 1);
        tried("try i[a, 0] else 2", 2, 1, 1);
    }

    private static void tried(String exp, long want, int failures, int elses) {
        FormMill mill = office(KINDS + "figure f = " + exp + ";");
        int failure = mill.figure(0, 0);
        due.is("figure " + exp, failure == 0 ? mill.value() : -1000 - failure, want);
        due.is("failures of " + exp, mill.count(7), failures);
        due.is("elses of " + exp, mill.told(2), elses);
    }

    private static void told(FormMill mill, String call, int worked, int elses, int arose) {
        due.is("told(0) behind " + call, mill.told(0), worked);
        due.is("told(1) behind " + call, mill.told(1), worked);
        due.is("told(2) behind " + call, mill.told(2), elses);
        due.is("told(3) behind " + call, mill.told(3), arose);
    }

    private static void told() {
        due.promise(26, "told");
        FormMill mill = office("form; until 5; text a 9 when try (1 / 0) else 1; figure f = a; figure g = 1 + f; figure h = try g else 7; figure k = h + 1 / 0;"
            + " figure m = 3; check 1 h; check 2 1 or m;");
        told(mill, "nothing", 0, 0, NONE);
        due.is("told(4)", mill.told(4), FormMill.BAD);
        due.is("told(-1)", mill.told(-1), FormMill.BAD);
        mill.figure(0, 1);
        told(mill, "figure(0, 1)", 2, 0, 0);
        mill.figure(0, 3);
        told(mill, "figure(0, 3)", 4, 1, 3);
        mill.figure(0, 2);
        told(mill, "figure(0, 2)", 3, 1, NONE);
        mill.figure(0, 1);
        mill.check(0);
        told(mill, "check(0)", 3, 2, NONE);
        mill.figure(0, 0);
        mill.shown(0, 0);
        told(mill, "shown(0, 0)", 0, 1, NONE);
        mill.figure(0, 4);
        told(mill, "figure(0, 4)", 1, 0, NONE);
        // What did not work leaves it.
        mill.figure(0, 9);
        mill.check(9);
        mill.shown(0, 9);
        mill.submit(0, 6);
        mill.submit(0, -1);
        mill.stats(0, 0, 1);
        mill.shortest(0, 5);
        mill.draft(0);
        told(mill, "refusals", 1, 0, NONE);
        mill.figure(0, 0);
        due.is("submit(0, 5)", mill.submit(0, 5), 1);
        told(mill, "submit(0, 5)", 3, 2, NONE);
        mill.figure(0, 4);
        due.is("submit(0, 5)", mill.submit(0, 5), FormMill.STATE);
        told(mill, "submit(0, 5), refused", 1, 0, NONE);
        Due.form(mill, "form; must yes a; figure f = 1; check 1 f;");
        mill.draft(1);
        due.is("submit(2, 5)", mill.submit(2, 5), -11);
        told(mill, "submit(2, 5)", 1, 0, NONE);
    }

    private static void full() {
        FormMill mill = Failing.upTo(9999);
        due.promise(21, "the 10000th failure");
        due.is("check(1)", mill.check(1), 12);
        due.is("what has begun goes on", mill.count(7), 10011);
        due.is("check(1)", mill.check(1), FormMill.FULL);
        due.is("check(9)", mill.check(9), FormMill.BAD);
        due.is("finding(11, 0)", mill.finding(11, 0), DIVIDE);
        due.promise(23, "the 10000th failure");
        due.is("shown(0, 0)", mill.shown(0, 0), FormMill.FULL);
        due.is("shown(0, 9)", mill.shown(0, 9), FormMill.BAD);
        due.promise(24, "the 10000th failure");
        due.is("figure(0, 0)", mill.figure(0, 0), FormMill.FULL);
        due.is("figure(0, 9)", mill.figure(0, 9), FormMill.BAD);
        due.is("count(7)", mill.count(7), 10011);
    }
}
