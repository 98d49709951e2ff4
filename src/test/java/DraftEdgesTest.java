/** The edges that "4 DRAFTS" and promises 14 to 22 and 27 to 31 name, sentence by sentence. */
public final class DraftEdgesTest {
    private static final Due due = new Due("DraftEdgesTest");
    private static final int NONE = FormMill.NONE, BAD = FormMill.BAD, STATE = FormMill.STATE, FULL = FormMill.FULL, LATE = FormMill.LATE;
    private static final int NULL = 1, CAST = 2, INDEX = 3, DIVIDE = 4, LACK = 7, RANGE = 8, FALSE = 9;
    private static final int MIN = Integer.MIN_VALUE, MAX = Integer.MAX_VALUE;

    public static void main(String[] args) {
        thirtyDrafts();
        groupsConditions();
        conditionsThatFail();
        lacks();
        yes();
        wholesAndDates();
        choices();
        moneys();
        manies();
        texts();
        tables();
        lists();
        signeds();
        entries();
        checks();
        thirtyTwoFindings();
        latestFindings();
        giving();
        takingBack();
        kinds();
        items();
        cells();
        digests();
        filedStays();
        days();
        receipts();
        stamps();
        signers();
        statsOfNone();
        statsGoRound();
        statsThatFail();
        due.end();
    }

    private static FormMill office(String text) {
        FormMill mill = Due.with(text);
        mill.entry(0, 10, NONE);
        mill.entry(999, 20, 9);
        mill.draft(0);
        return mill;
    }

    // ---- promise 14

    private static void thirtyDrafts() {
        due.promise(14, "DRAFTS (30)");
        FormMill mill = Due.with("form; yes a;");
        due.is("check(0) ahead of any", mill.check(0), BAD);
        for (int i = 0; i < 30; i++) {
            due.is("draft(0)", mill.draft(0), i);
        }
        due.is("draft(0) of a 31st", mill.draft(0), FULL);
        due.is("draft(1)", mill.draft(1), BAD);
        due.is("draft(-1)", mill.draft(-1), BAD);
        due.is("count(2)", mill.count(2), 30);
        due.is("check(29)", mill.check(29), 0);
        due.is("check(30)", mill.check(30), BAD);
    }

    // ---- SHOWN

    /** The FINDINGS of draft 0, each as its kind, PART, check and message. */
    private static void findings(FormMill mill, int[]... want) {
        due.is("check(0)", mill.check(0), want.length);
        for (int i = 0; i < want.length; i++) {
            for (int what = 0; what < 4; what++) {
                due.is("finding(" + i + ", " + what + ")", mill.finding(i, what), want[i][what]);
            }
        }
        due.is("finding(" + want.length + ", 0)", mill.finding(want.length, 0), -100);
    }

    private static int[] of(int kind, int part) {
        return new int[] {kind, part, NONE, 0};
    }

    private static int[] ofCheck(int kind, int check, int message) {
        return new int[] {kind, NONE, check, message};
    }

    private static void groupsConditions() {
        due.promise(21, "SHOWN is one whose group is (if it is in one; of others no condition is worked), and whose condition .. is not 0");
        FormMill mill = office("form; group g when 0 { must yes a when 1/0; group h when 1/0 { must yes b; } group i { must yes c; } } must yes d;");
        findings(mill, of(LACK, 6));
        due.is("count(7)", mill.count(7), 0);
        FormMill open = office("form; group g when -1 { must yes a when 1; must yes b when 0; group h { group i when 2 { must yes c; } } }");
        findings(open, of(LACK, 1), of(LACK, 5));
        FormMill empty = office("form; group g when 0 { } group h { group i { } }");
        findings(empty);
    }

    private static void conditionsThatFail() {
        due.promise(21, "a condition that FAILS is a FINDING (its FAILURE, the PART, a group, too); it is not SHOWN then");
        FormMill mill = office("form; must yes a when 1/0; group g when b { must yes b; group h when 1/0 { } } must yes c when b[0]; yes d when len a;");
        findings(mill, of(DIVIDE, 0), of(NULL, 1), of(NULL, 4), of(NULL, 5));
        due.is("count(7)", mill.count(7), 4);
        Due.give(mill, 0, 2, 1, 1);
        findings(mill, of(DIVIDE, 0), of(CAST, 1), of(CAST, 4), of(NULL, 5));
        Due.give(mill, 0, 2, 0);
        findings(mill, of(DIVIDE, 0), of(INDEX, 1), of(INDEX, 4), of(NULL, 5));
        Due.give(mill, 0, 2, 0, 1);
        findings(mill, of(DIVIDE, 0), of(DIVIDE, 3), of(LACK, 4), of(NULL, 5));
        Due.give(mill, 0, 0, 5);
        findings(mill, of(DIVIDE, 0), of(DIVIDE, 3), of(LACK, 4), of(CAST, 5));
    }

    private static void lacks() {
        due.promise(21, "NOTHING: LACK (7), if it must be there");
        String[] parts = {"yes a", "whole a 0 1", "money a 1", "date a 0 1", "choice a 2", "many a 1 0 1", "text a 1", "table a 1 1", "list a 1",
            "signed a 1", "entry a"};
        for (String part : parts) {
            findings(office("form; " + part + ";"));
            FormMill mill = office("form; must " + part + ";");
            findings(mill, of(LACK, 0));
            due.is("a LACK is no FAILURE", mill.count(7), 0);
            findings(office("form; must " + part + " when 0;"));
            findings(office("form; must " + part + " when 1;"), of(LACK, 0));
            mill.desk(0, 0);
            mill.give(0, 0);
            mill.give(0, 0);
            findings(mill, of(LACK, 0));
        }
    }

    // ---- FAILURE and RANGE of each kind

    private static void found(FormMill mill, String answer, int kind) {
        int before = mill.count(7);
        mill.give(0, 0);
        due.is("check(0) of " + answer, mill.check(0), kind == 0 ? 0 : 1);
        due.is("finding(0, 0) of " + answer, mill.finding(0, 0), kind == 0 ? -100 : kind);
        due.is("FAILURES of " + answer, mill.count(7) - before, kind > 0 && kind < LACK ? 1 : 0);
    }

    private static void row(FormMill mill, int kind, int sort, long... items) {
        Due.hold(mill, sort, items);
        found(mill, "sort " + sort + " " + java.util.Arrays.toString(items), kind);
    }

    private static void length(FormMill mill, int kind, int sort, int n) {
        mill.desk(sort, n);
        found(mill, "sort " + sort + " of " + n, kind);
    }

    private static void yes() {
        due.promise(21, "yes: truths, item 0 asked for; RANGE: other than 1 item");
        FormMill mill = office("form; yes a;");
        length(mill, INDEX, 0, 0);
        length(mill, 0, 0, 1);
        row(mill, 0, 0, 1);
        length(mill, RANGE, 0, 2);
        length(mill, RANGE, 0, 12);
        for (int sort = 1; sort <= 6; sort++) {
            length(mill, CAST, sort, 1);
            length(mill, CAST, sort, 0);
        }
        length(mill, CAST, 7, 0);
    }

    private static void wholesAndDates() {
        due.promise(21, "whole, date, choice: wholes, item 0: RANGE: other than 1 item, or out of least .. most");
        for (String kind : new String[] {"whole", "date"}) {
            FormMill mill = office("form; " + kind + " a 3 7;");
            row(mill, RANGE, 1, 2);
            row(mill, 0, 1, 3);
            row(mill, 0, 1, 7);
            row(mill, RANGE, 1, 8);
            row(mill, RANGE, 1, MIN);
            row(mill, RANGE, 1, MAX);
            row(mill, RANGE, 1, -5);
            length(mill, INDEX, 1, 0);
            row(mill, RANGE, 1, 5, 5);
            length(mill, RANGE, 1, 12);
            row(mill, CAST, 0, 1);
            row(mill, CAST, 2, 5);
            row(mill, CAST, 3, 5);
            FormMill one = office("form; " + kind + " a 0 0;");
            row(one, 0, 1, 0);
            row(one, RANGE, 1, 1);
            row(one, RANGE, 1, -1);
        }
        FormMill wide = office("form; whole a 0 999999;");
        row(wide, 0, 1, 999999);
        row(wide, RANGE, 1, 1000000);
        row(wide, RANGE, 1, -1);
        FormMill late = office("form; date a 9999 9999;");
        row(late, 0, 1, 9999);
        row(late, RANGE, 1, 10000);
        row(late, RANGE, 1, 9998);
    }

    private static void choices() {
        due.promise(21, "choice: (0 .. n - 1)");
        for (int n = 2; n <= 8; n++) {
            FormMill mill = office("form; choice a " + n + ";");
            row(mill, RANGE, 1, -1);
            row(mill, 0, 1, 0);
            row(mill, 0, 1, n - 1);
            row(mill, RANGE, 1, n);
            length(mill, INDEX, 1, 0);
            length(mill, RANGE, 1, 2);
        }
    }

    private static void moneys() {
        due.promise(21, "money: moneys, likewise, 0 .. most");
        FormMill mill = office("form; money a 50;");
        row(mill, RANGE, 2, -1);
        row(mill, 0, 2, 0);
        row(mill, 0, 2, 50);
        row(mill, RANGE, 2, 51);
        row(mill, RANGE, 2, 1L << 32);
        row(mill, RANGE, 2, Long.MIN_VALUE);
        row(mill, RANGE, 2, Long.MAX_VALUE);
        length(mill, INDEX, 2, 0);
        length(mill, RANGE, 2, 2);
        row(mill, CAST, 1, 5);
        FormMill none = office("form; money a 0;");
        row(none, 0, 2, 0);
        row(none, RANGE, 2, 1);
        FormMill most = office("form; money a 999999;");
        row(most, 0, 2, 999999);
        row(most, RANGE, 2, 1000000);
    }

    private static void manies() {
        due.promise(21, "many: truths, item n - 1 asked for; RANGE: more than n, or less than least, more than most are true");
        FormMill mill = office("form; many a 4 2 3;");
        length(mill, INDEX, 0, 0);
        row(mill, INDEX, 0, 1, 1, 1);
        row(mill, RANGE, 0, 1, 0, 0, 0);
        row(mill, 0, 0, 1, 0, 0, 1);
        row(mill, 0, 0, 0, 1, 1, 1);
        row(mill, RANGE, 0, 1, 1, 1, 1);
        row(mill, RANGE, 0, 1, 1, 0, 0, 0);
        length(mill, RANGE, 0, 12);
        row(mill, CAST, 1, 1, 1, 0, 0);
        FormMill one = office("form; many a 1 0 0;");
        length(one, INDEX, 0, 0);
        row(one, 0, 0, 0);
        row(one, RANGE, 0, 1);
        row(one, RANGE, 0, 0, 0);
        FormMill eight = office("form; many a 8 8 8;");
        row(eight, 0, 0, 1, 1, 1, 1, 1, 1, 1, 1);
        row(eight, RANGE, 0, 1, 1, 1, 1, 1, 1, 1, 0);
        row(eight, INDEX, 0, 1, 1, 1, 1, 1, 1, 1);
        row(eight, RANGE, 0, 1, 1, 1, 1, 1, 1, 1, 1, 0);
    }

    private static void texts() {
        due.promise(21, "text: letters; RANGE: none, more than most, then, one by one, a code not 32 .. 126");
        FormMill mill = office("form; text a 3;");
        length(mill, RANGE, 3, 0);
        row(mill, 0, 3, 65);
        row(mill, 0, 3, 65, 65, 65);
        row(mill, RANGE, 3, 65, 65, 65, 65);
        row(mill, RANGE, 3, 31);
        row(mill, 0, 3, 32);
        row(mill, 0, 3, 126);
        row(mill, RANGE, 3, 127);
        row(mill, RANGE, 3, 0);
        row(mill, RANGE, 3, 65, 65, 127);
        row(mill, RANGE, 3, 65, 31, 65);
        row(mill, RANGE, 3, 65535);
        row(mill, RANGE, 3, 256 + 65);
        row(mill, 0, 3, 65536 + 65);
        length(mill, CAST, 1, 0);
        FormMill wide = office("form; text a 24;");
        row(wide, 0, 3, 65, 65, 65, 65, 65, 65, 65, 65, 65, 65, 65, 65);
        length(wide, RANGE, 3, 12);
        FormMill twelve = office("form; text a 12;");
        row(twelve, 0, 3, 65, 65, 65, 65, 65, 65, 65, 65, 65, 65, 65, 65);
        FormMill eleven = office("form; text a 11;");
        row(eleven, RANGE, 3, 65, 65, 65, 65, 65, 65, 65, 65, 65, 65, 65, 65);
    }

    /** Rows as long as told; -1 is NOTHING. */
    private static void table(FormMill mill, int kind, int... lengths) {
        mill.desk(4, lengths.length);
        for (int i = 0; i < lengths.length; i++) {
            if (lengths[i] >= 0) {
                mill.line(i, lengths[i]);
            }
        }
        found(mill, "rows of " + java.util.Arrays.toString(lengths), kind);
    }

    private static void tables() {
        due.promise(21, "table: rows; RANGE: none, more than told; then, row by row, its last column asked for, RANGE: more");
        FormMill mill = office("form; table a 2 3;");
        table(mill, RANGE);
        table(mill, 0, 2);
        table(mill, 0, 2, 2, 2);
        table(mill, RANGE, 2, 2, 2, 2);
        table(mill, RANGE, -1, -1, -1, -1);
        table(mill, INDEX, 0);
        table(mill, INDEX, 1);
        table(mill, RANGE, 3);
        table(mill, NULL, -1);
        table(mill, NULL, 2, 2, -1);
        table(mill, INDEX, 2, 2, 1);
        table(mill, RANGE, 2, 2, 3);
        table(mill, RANGE, 3, -1, 1);
        table(mill, NULL, -1, 3, 1);
        table(mill, INDEX, 1, 3, -1);
        length(mill, CAST, 1, 2);
        length(mill, CAST, 5, 2);
        for (int columns = 1; columns <= 4; columns++) {
            FormMill each = office("form; table a " + columns + " 6;");
            table(each, 0, columns, columns, columns, columns, columns, columns);
            table(each, INDEX, columns - 1);
            table(each, RANGE, columns + 1);
            table(each, RANGE, columns, columns, columns, columns, columns, columns + 1);
        }
        for (int rows = 1; rows <= 5; rows++) {
            FormMill each = office("form; table a 1 " + rows + ";");
            int[] all = new int[rows];
            java.util.Arrays.fill(all, 1);
            table(each, 0, all);
            int[] more = new int[rows + 1];
            java.util.Arrays.fill(more, 1);
            table(each, RANGE, more);
        }
    }

    private static void seats(FormMill mill, int kind, int sort, int... entries) {
        Due.seats(mill, sort, entries);
        found(mill, "sort " + sort + " " + java.util.Arrays.toString(entries), kind);
    }

    private static void lists() {
        due.promise(21, "list: entries; RANGE: more than most; then each label asked for");
        FormMill mill = office("form; list a 2;");
        seats(mill, 0, 5);
        seats(mill, 0, 5, 0, 1);
        seats(mill, RANGE, 5, 0, 1, 0);
        seats(mill, RANGE, 5, -1, -1, -1);
        seats(mill, NULL, 5, -1);
        seats(mill, NULL, 5, 0, -1);
        seats(mill, 0, 6);
        seats(mill, 0, 6, 1, 1);
        seats(mill, NULL, 6, 1, -1);
        seats(mill, RANGE, 6, 1, 1, 1);
        length(mill, CAST, 7, 0);
        length(mill, CAST, 4, 1);
        FormMill eight = office("form; list a 8;");
        seats(eight, 0, 5, 0, 1, 0, 1, 0, 1, 0, 1);
        seats(eight, NULL, 5, 0, 1, 0, 1, 0, 1, 0, -1);
        seats(eight, RANGE, 5, 0, 1, 0, 1, 0, 1, 0, 1, 0);
        length(eight, RANGE, 5, 12);
        FormMill one = office("form; list a 1;");
        seats(one, 0, 5, 0);
        seats(one, RANGE, 5, 0, 0);
    }

    private static void signeds() {
        due.promise(21, "signed: signeds, likewise, each signer");
        FormMill mill = office("form; signed a 2;");
        seats(mill, 0, 6);
        seats(mill, 0, 6, 1, 1);
        seats(mill, RANGE, 6, 1, 1, 1);
        seats(mill, RANGE, 6, -1, -1, -1);
        seats(mill, NULL, 6, -1);
        seats(mill, NULL, 6, 1, -1);
        seats(mill, CAST, 5);
        seats(mill, CAST, 5, 1, 1);
        seats(mill, CAST, 5, 1, 1, 1);
        length(mill, CAST, 7, 1);
        FormMill eight = office("form; signed a 8;");
        seats(eight, 0, 6, 1, 1, 1, 1, 1, 1, 1, 1);
        seats(eight, RANGE, 6, 1, 1, 1, 1, 1, 1, 1, 1, 1);
    }

    private static void entries() {
        due.promise(21, "entry: one ENTRY, its label");
        FormMill mill = office("form; entry a;");
        length(mill, 0, 7, 0);
        length(mill, 0, 7, 1);
        seats(mill, CAST, 5, 0);
        seats(mill, CAST, 6, 1);
        length(mill, CAST, 0, 1);
    }

    private static void checks() {
        due.promise(21, "Then the checks, in order: 0: FALSE (9); or its FAILURE.");
        FormMill mill = office("form; must yes a; check 5 0; check 6 1; check 7 -1; check 8 1/0; check 9 a; check 0 1-1; check 999999 0;");
        findings(mill, of(LACK, 0), ofCheck(FALSE, 0, 5), ofCheck(DIVIDE, 3, 8), ofCheck(NULL, 4, 9), ofCheck(FALSE, 5, 0), ofCheck(FALSE, 6, 999999));
        due.is("a FALSE one is no FAILURE", mill.count(7), 2);
        FormMill large = office("form; money c 9; check 1 c;");
        Due.give(large, 0, 0, 2, 1L << 32);
        findings(large, of(RANGE, 0));
        due.promise(21, "checks are worked whatever is SHOWN");
        FormMill hidden = office("form; group g when 0 { yes a; } check 1 a;");
        Due.give(hidden, 0, 1, 0, 1);
        findings(hidden);
        Due.give(hidden, 0, 1, 0, 0);
        findings(hidden, ofCheck(FALSE, 0, 1));
    }

    private static void thirtyTwoFindings() {
        due.promise(22, "as many FINDINGS as PARTS and checks: 32");
        StringBuilder text = new StringBuilder("form;");
        for (int p = 0; p < 20; p++) {
            text.append("must yes a").append(p).append(";");
        }
        for (int c = 0; c < 12; c++) {
            text.append("check ").append(c + 100).append(c % 2 == 0 ? " 0;" : " 1/0;");
        }
        FormMill mill = office(text.toString());
        int[][] want = new int[32][];
        for (int i = 0; i < 32; i++) {
            want[i] = i < 20 ? of(LACK, i) : ofCheck(i % 2 == 0 ? FALSE : DIVIDE, i - 20, i + 80);
        }
        findings(mill, want);
        due.is("submit(0, 0)", mill.submit(0, 0), -42);
        due.is("finding(31, 0)", mill.finding(31, 0), DIVIDE);
        for (int i : new int[] {32, -1, MIN, MAX}) {
            due.is("finding(" + i + ", 0)", mill.finding(i, 0), -100);
        }
        for (int what : new int[] {5, -1, MIN, MAX}) {
            due.is("finding(0, " + what + ")", mill.finding(0, what), -100);
        }
        for (int what = 0; what <= 4; what++) {
            due.is("finding(19, " + what + ")", mill.finding(19, what), new int[] {LACK, 19, NONE, 0, NONE}[what]);
        }
    }

    private static void latestFindings() {
        due.promise(22, "Of FINDING i of the latest check() or submit() that was not refused before it worked");
        FormMill mill = office("form; until 9; must yes a; must yes b;");
        due.is("finding(0, 0) ahead of any", mill.finding(0, 0), -100);
        mill.check(0);
        due.is("finding(1, 1)", mill.finding(1, 1), 1);
        mill.check(1);
        mill.check(-1);
        mill.submit(0, 10);
        mill.submit(0, 10000);
        mill.submit(1, 0);
        due.is("finding(1, 1) stays", mill.finding(1, 1), 1);
        Due.give(mill, 0, 0, 0, 1);
        due.is("finding(0, 1) stays", mill.finding(0, 1), 0);
        due.is("submit(0, 9)", mill.submit(0, 9), -11);
        due.is("finding(0, 1)", mill.finding(0, 1), 1);
        due.is("finding(1, 1)", mill.finding(1, 1), -100);
        Due.give(mill, 0, 1, 0, 1);
        due.is("submit(0, 9)", mill.submit(0, 9), 1);
        due.is("finding(0, 0) of none", mill.finding(0, 0), -100);
        mill.draft(0);
        due.is("check(1)", mill.check(1), 2);
        due.is("submit(0, 9)", mill.submit(0, 9), STATE);
        due.is("finding(1, 0) stays", mill.finding(1, 0), LACK);
        FormMill failed = Failing.upTo(9988);
        failed.check(1);
        due.is("check(0): FULL", failed.check(0), FULL);
        due.is("submit(0, 0): FULL", failed.submit(0, 0), FULL);
        due.is("finding(11, 2) stays", failed.finding(11, 2), 11);
    }

    // ---- promises 15 to 20

    private static void giving() {
        due.promise(15, "GIVING: THE DESK holds NOTHING then: how many givings of the DRAFT are not undone.");
        FormMill mill = office("form; yes a; group g { yes b; }");
        mill.draft(0);
        due.is("give(0, 0) of NOTHING", mill.give(0, 0), 1);
        due.is("kindOf(0, 0)", mill.kindOf(0, 0), NONE);
        due.is("give(0, 2)", Due.give(mill, 0, 2, 0, 1), 2);
        due.is("sort()", mill.sort(), NONE);
        due.is("give(1, 2): its own", Due.give(mill, 1, 2, 0, 1), 1);
        due.is("takeBack(0)", mill.takeBack(0), 2);
        due.is("give(0, 2)", Due.give(mill, 0, 2, 1, 1), 2);
        due.is("count(8): ever", mill.count(8), 4);
        due.promise(15, "BAD: also a group");
        due.is("give(0, 1)", mill.give(0, 1), BAD);
        due.is("give(0, 3)", mill.give(0, 3), BAD);
    }

    private static void takingBack() {
        due.promise(16, "TAKING BACK undoes the latest giving that is not undone; STATE: there is nothing to undo");
        FormMill mill = office("form; text a 1; text b 1;");
        due.is("takeBack(0)", mill.takeBack(0), STATE);
        for (int i = 0; i < 6; i++) {
            Due.give(mill, 0, i % 2, 1, i);
        }
        for (int i = 5; i >= 0; i--) {
            due.is("item(0, " + i % 2 + ", 0)", mill.item(0, i % 2, 0), i);
            due.is("takeBack(0)", mill.takeBack(0), i % 2);
            due.is("item(0, " + i % 2 + ", 0) then", mill.item(0, i % 2, 0), i < 2 ? -100 : i - 2);
        }
        due.is("takeBack(0)", mill.takeBack(0), STATE);
        due.is("count(8)", mill.count(8), 6);
        Due.give(mill, 0, 0, 1, 1);
        mill.give(0, 0);
        due.is("takeBack(0) of NOTHING given", mill.takeBack(0), 0);
        due.is("item(0, 0, 0)", mill.item(0, 0, 0), 1);
        mill.takeBack(0);
        due.is("takeBack(0)", mill.takeBack(0), STATE);
        due.promise(16, "answers that were not given, by migrate(), take(), are never undone");
        Due.give(mill, 0, 0, 1, 5);
        mill.export(0);
        due.is("take(0)", mill.take(0), 1);
        due.is("takeBack(1)", mill.takeBack(1), STATE);
        mill.move(0, 0, 0, 1);
        due.is("migrate(0, 0)", mill.migrate(0, 0), 2);
        due.is("takeBack(2)", mill.takeBack(2), STATE);
        due.is("item(2, 1, 0)", mill.item(2, 1, 0), 5);
        due.is("give(2, 1)", mill.give(2, 1), 1);
        due.is("takeBack(2)", mill.takeBack(2), 1);
        due.is("item(2, 1, 0)", mill.item(2, 1, 0), 5);
        due.is("takeBack(2)", mill.takeBack(2), STATE);
    }

    private static void kinds() {
        due.promise(17, "The SORT of an answer, by the OBJECT as it is; NONE. BAD: also a group");
        FormMill mill = office("form; signed a 1; group g { text b 1; }");
        due.is("kindOf(0, 0)", mill.kindOf(0, 0), NONE);
        for (int sort = 0; sort <= 7; sort++) {
            mill.desk(sort, 0);
            mill.give(0, 0);
            due.is("kindOf(0, 0)", mill.kindOf(0, 0), sort);
        }
        due.is("kindOf(0, 1)", mill.kindOf(0, 1), BAD);
        due.is("kindOf(0, 2)", mill.kindOf(0, 2), NONE);
        due.is("kindOf(0, 3)", mill.kindOf(0, 3), BAD);
    }

    private static void items() {
        due.promise(18, "i = -1: how many items (1 of one ENTRY). BAD: -100 (also no such item, NOTHING)");
        FormMill mill = office("form; text a 1; group g { } text b 1;");
        for (int i : new int[] {-2, -1, 0, 1, MIN, MAX}) {
            due.is("item(0, 0, " + i + ") of NOTHING", mill.item(0, 0, i), -100);
            due.is("item(0, 1, " + i + ") of a group", mill.item(0, 1, i), -100);
        }
        for (int sort = 0; sort <= 6; sort++) {
            for (int n : new int[] {0, 1, sort == 4 ? 6 : 12}) {
                mill.desk(sort, n);
                mill.give(0, 0);
                due.is("item(0, 0, -1) of sort " + sort, mill.item(0, 0, -1), n);
                due.is("item(0, 0, n - 1) of sort " + sort, n > 0 ? mill.item(0, 0, n - 1) : 0, n > 0 && sort > 3 ? NONE : 0);
                due.is("item(0, 0, n) of sort " + sort, mill.item(0, 0, n), -100);
                due.is("item(0, 0, -2) of sort " + sort, mill.item(0, 0, -2), -100);
            }
        }
        mill.desk(7, 1);
        mill.give(0, 0);
        due.is("one: item(0, 0, -1)", mill.item(0, 0, -1), 1);
        due.is("one: item(0, 0, 0)", mill.item(0, 0, 0), 1);
        due.is("one: item(0, 0, 1)", mill.item(0, 0, 1), -100);
        due.is("one: item(0, 0, MIN)", mill.item(0, 0, MIN), -100);
        Due.rows(mill, new int[0], null, new int[6]);
        mill.give(0, 0);
        due.is("rows: item(0, 0, 0)", mill.item(0, 0, 0), 0);
        due.is("rows: item(0, 0, 1)", mill.item(0, 0, 1), NONE);
        due.is("rows: item(0, 0, 2)", mill.item(0, 0, 2), 6);
        due.is("no FAILURES", mill.count(7), 0);
    }

    private static void cells() {
        due.promise(19, "Item j of row i of an answer of rows. BAD: 0.");
        FormMill mill = office("form; text a 1; group g { } text b 1;");
        Due.rows(mill, new int[] {MIN, 2, 3, 4, 5, MAX}, null, new int[0], null, null, new int[] {7});
        mill.give(0, 0);
        due.is("cellOf(0, 0, 0, 0)", mill.cellOf(0, 0, 0, 0), MIN);
        due.is("cellOf(0, 0, 0, 5)", mill.cellOf(0, 0, 0, 5), MAX);
        due.is("cellOf(0, 0, 5, 0)", mill.cellOf(0, 0, 5, 0), 7);
        int[][] none = {{0, 6}, {0, -1}, {0, MAX}, {0, MIN}, {1, 0}, {2, 0}, {5, 1}, {6, 0}, {-1, 0}, {MAX, 0}, {MIN, 0}};
        for (int[] ij : none) {
            due.is("cellOf(0, 0, " + ij[0] + ", " + ij[1] + ")", mill.cellOf(0, 0, ij[0], ij[1]), 0);
        }
        for (int p : new int[] {1, 2, 3, -1}) {
            due.is("cellOf(0, " + p + ", 0, 0)", mill.cellOf(0, p, 0, 0), 0);
        }
        for (int sort : new int[] {0, 1, 2, 3, 5, 6, 7}) {
            mill.desk(sort, sort == 7 ? 1 : 3);
            mill.write(0, 1);
            mill.seat(0, 1);
            mill.give(0, 0);
            due.is("cellOf() of sort " + sort, mill.cellOf(0, 0, 0, 0), 0);
        }
    }

    private static void digests() {
        due.promise(20, "h is 17; for each byte .. (however many): h * 31 + it; an int, going round. BAD: 0");
        FormMill mill = office("form; text a 1; text b 1;");
        due.is("digest(0) of none", mill.digest(0), 17);
        due.is("digest(1)", mill.digest(1), 0);
        due.is("digest(-1)", mill.digest(-1), 0);
        mill.give(0, 0);
        due.is("digest(0) of NOTHING given", mill.digest(0), 17);
        Due.give(mill, 0, 0, 0, 1);
        int sum = ((0 * 31 + 0) * 31 + 1) * 31 + 1;
        int h = 17;
        for (int b : new int[] {0, 0, 1, 1, sum >> 8, sum & 255}) {
            h = h * 31 + b;
        }
        due.is("digest(0) of one truth", mill.digest(0), h);
        due.is("a digest that went round", h < 0 || h > 0 ? 1 : 0, 1);
        Due.give(mill, 0, 1, 2, Long.MIN_VALUE, -1);
        mill.export(0);
        int all = 17;
        for (int i = 0; i < mill.count(6); i++) {
            all = all * 31 + mill.disk(i);
        }
        due.is("digest(0) is that of its disk", mill.digest(0), all);
        mill.cutDisk(0);
        due.is("digest(0) without a disk", mill.digest(0), all);
        due.is("the disk is left", mill.count(6), 0);
    }

    // ---- promises 27 to 31

    private static void filedStays() {
        due.promise(27, "FILED ones stay as they are.");
        FormMill mill = office("form; yes a;");
        Due.give(mill, 0, 0, 0, 1);
        due.is("submit(0, 0)", mill.submit(0, 0), 1);
        int digest = mill.digest(0);
        Due.hold(mill, 0, 0);
        due.is("give(0, 0)", mill.give(0, 0), STATE);
        due.is("sort()", mill.sort(), 0);
        due.is("takeBack(0)", mill.takeBack(0), STATE);
        due.is("submit(0, 0)", mill.submit(0, 0), STATE);
        due.is("digest(0)", mill.digest(0), digest);
        due.is("receipt(0)", mill.receipt(0), 1);
        due.is("count(3)", mill.count(3), 1);
        due.is("check(0)", mill.check(0), 0);
        due.is("shown(0, 0)", mill.shown(0, 0), 1);
    }

    private static void days() {
        due.promise(27, "BAD: day not 0 .. 9999. LATE: behind until.");
        for (int until : new int[] {0, 1, 50, 9998, 9999}) {
            FormMill mill = office("form; until " + until + ";");
            due.is("submit(0, -1)", mill.submit(0, -1), BAD);
            due.is("submit(0, 10000)", mill.submit(0, 10000), BAD);
            due.is("submit() behind " + until, mill.submit(0, until + 1), until == 9999 ? BAD : LATE);
            due.is("submit(0, 9999)", until == 9999 ? LATE : mill.submit(0, 9999), LATE);
            due.is("receipt(0)", mill.receipt(0), NONE);
            due.is("submit() on " + until, mill.submit(0, until), 1);
        }
        FormMill early = office("form; until 50;");
        due.is("submit(0, 0)", early.submit(0, 0), 1);
        FormMill free = office("form;");
        due.is("submit(0, 10000)", free.submit(0, 10000), BAD);
        due.is("submit(0, -1)", free.submit(0, -1), BAD);
        due.is("submit(0, 9999)", free.submit(0, 9999), 1);
        due.promise(27, "-10 less how many (at least 1)");
        FormMill lacking = office("form; must yes a; must yes b;");
        due.is("submit(0, 0)", lacking.submit(0, 0), -12);
        Due.give(lacking, 0, 1, 0, 1);
        due.is("submit(0, 0)", lacking.submit(0, 0), -11);
        due.is("count(3)", lacking.count(3), 0);
        Due.give(lacking, 0, 0, 0, 1);
        due.is("submit(0, 0)", lacking.submit(0, 0), 1);
    }

    private static void receipts() {
        due.promise(28, "Its RECEIPT; NONE: it is not FILED: how many DRAFTS this office has FILED then");
        FormMill mill = office("form;");
        Due.form(mill, "form; must yes a;");
        due.is("receipt(0)", mill.receipt(0), NONE);
        for (int i = 1; i < 30; i++) {
            mill.draft(i == 5 ? 1 : 0);
        }
        int filed = 0;
        for (int i = 29; i >= 0; i--) {
            due.is("submit(" + i + ", 0)", mill.submit(i, 0), i == 5 ? -11 : ++filed);
        }
        due.is("count(3)", mill.count(3), 29);
        due.is("receipt(29)", mill.receipt(29), 1);
        due.is("receipt(0)", mill.receipt(0), 29);
        due.is("receipt(5)", mill.receipt(5), NONE);
        due.is("receipt(30)", mill.receipt(30), BAD);
        due.is("receipt(-1)", mill.receipt(-1), BAD);
        due.is("the receipts of another office", office("form;").submit(0, 0), 1);
    }

    private static void stamps() {
        due.promise(29, "0: the first one has the lesser stamp (or both are one), 1: the second one");
        FormMill mill = office("form;");
        mill.draft(0);
        mill.draft(0);
        due.is("earlier(0, 0): not FILED", mill.earlier(0, 0), STATE);
        mill.submit(1, 50);
        due.is("earlier(1, 1)", mill.earlier(1, 1), 0);
        due.is("earlier(0, 1)", mill.earlier(0, 1), STATE);
        due.is("earlier(1, 0)", mill.earlier(1, 0), STATE);
        // By stamps, not by days.
        mill.submit(0, 3);
        due.is("earlier(0, 1)", mill.earlier(0, 1), 1);
        due.is("earlier(1, 0)", mill.earlier(1, 0), 0);
        due.is("earlier(0, 3)", mill.earlier(0, 3), BAD);
        due.is("earlier(3, 0)", mill.earlier(3, 0), BAD);
        due.is("earlier(-1, 2): BAD ahead of STATE", mill.earlier(-1, 2), BAD);
        due.is("earlier(2, -1): BAD ahead of STATE", mill.earlier(2, -1), BAD);
    }

    private static void signers() {
        due.promise(30, "how many are still to sign (they sign from 0 on)");
        for (int n = 0; n <= 5; n++) {
            FormMill mill = office("form; signers " + n + ";");
            due.is("sign(0, 0) ahead of filing", mill.sign(0, 0), n == 0 ? BAD : STATE);
            mill.submit(0, 0);
            for (int who = 0; who < n; who++) {
                for (int other = 0; other < n; other++) {
                    if (other != who) {
                        due.is("sign(0, " + other + ") where " + who + " is next", mill.sign(0, other), STATE);
                    }
                }
                due.is("sign(0, " + n + ")", mill.sign(0, n), BAD);
                due.is("sign(0, " + who + ")", mill.sign(0, who), n - who - 1);
            }
            for (int who = 0; who < n; who++) {
                due.is("sign(0, " + who + ") behind the last", mill.sign(0, who), STATE);
            }
            due.is("sign(0, " + n + ")", mill.sign(0, n), BAD);
            due.is("sign(0, -1)", mill.sign(0, -1), BAD);
        }
        due.is("sign(0, 0) of a form without", signedWithout(), BAD);
    }

    private static int signedWithout() {
        FormMill mill = office("form;");
        mill.submit(0, 0);
        return mill.sign(0, 0);
    }

    private static void stats(FormMill mill, int part, long have, long sum, long fails) {
        due.is("stats(0, " + part + ", 0)", mill.stats(0, part, 0), have);
        due.is("stats(0, " + part + ", 1)", mill.stats(0, part, 1), sum);
        due.is("stats(0, " + part + ", 2)", mill.stats(0, part, 2), fails);
    }

    private static void statsOfNone() {
        due.promise(31, "Of all FILED DRAFTS of a form: what = 0 how many have an answer of a PART");
        FormMill mill = office("form; whole a 0 9; group g { }");
        Due.form(mill, "form; whole a 0 9;");
        stats(mill, 0, 0, 0, 0);
        Due.give(mill, 0, 0, 1, 4);
        stats(mill, 0, 0, 0, 0);
        mill.submit(0, 0);
        stats(mill, 0, 1, 4, 0);
        mill.draft(1);
        Due.give(mill, 1, 0, 1, 5);
        mill.submit(1, 0);
        stats(mill, 0, 1, 4, 0);
        mill.draft(0);
        mill.submit(2, 0);
        // A FILED one without an answer has nothing that could FAIL.
        stats(mill, 0, 1, 4, 0);
        due.is("count(7)", mill.count(7), 0);
        due.is("stats(0, 1, 0): a group", mill.stats(0, 1, 0), -100);
        due.is("stats(0, 2, 0)", mill.stats(0, 2, 0), -100);
    }

    private static void statsGoRound() {
        due.promise(31, "1 the sum of NAME of that PART: longs that go round");
        FormMill mill = Due.with("form; group g when 0 { money a 1; entry b; }");
        mill.entry(1, Long.MIN_VALUE, NONE);
        long[] moneys = {Long.MAX_VALUE, Long.MAX_VALUE, 3};
        for (int d = 0; d < 3; d++) {
            mill.draft(0);
            Due.give(mill, d, 1, 2, moneys[d]);
            mill.desk(7, 0);
            mill.give(d, 2);
            due.is("submit()", mill.submit(d, 0), d + 1);
        }
        stats(mill, 1, 3, 1, 0);
        stats(mill, 2, 3, Long.MIN_VALUE, 0);
        FormMill thirty = Due.with("form; whole a 0 999999;");
        for (int d = 0; d < 30; d++) {
            thirty.draft(0);
            Due.give(thirty, d, 0, 1, 999999);
            thirty.submit(d, 0);
        }
        stats(thirty, 0, 30, 30 * 999999L, 0);
    }

    private static void statsThatFail() {
        due.promise(31, "of those that have one and where it does not FAIL, 2 of how many it FAILS");
        FormMill mill = Due.with("form; group g when 0 { whole a 0 1; }");
        for (int d = 0; d < 5; d++) {
            mill.draft(0);
        }
        Due.give(mill, 0, 1, 1, 7);
        Due.give(mill, 1, 1, 1);
        Due.give(mill, 2, 1, 2, 7);
        Due.give(mill, 4, 1, 1, -9, 5);
        for (int d = 0; d < 5; d++) {
            due.is("submit(" + d + ", 0)", mill.submit(d, 0), d + 1);
        }
        due.is("stats(0, 1, 0)", mill.stats(0, 1, 0), 4);
        due.is("count(7)", mill.count(7), 0);
        due.is("stats(0, 1, 1)", mill.stats(0, 1, 1), -2);
        due.is("count(7)", mill.count(7), 2);
        due.is("stats(0, 1, 2)", mill.stats(0, 1, 2), 2);
        due.is("count(7)", mill.count(7), 4);
    }
}
