/** The edges that "5 MOVES" and promises 32 to 34 name, sentence by sentence. */
public final class MoveEdgesTest {
    private static final Due due = new Due("MoveEdgesTest");
    private static final int NONE = FormMill.NONE, BAD = FormMill.BAD, FULL = FormMill.FULL;

    public static void main(String[] args) {
        fortyMoves();
        sameForm();
        noMoves();
        fortyAtOnce();
        nothingToo();
        emptyAndLongRows();
        rowsWithNewRows();
        oneEntry();
        stopsAtEachPlace();
        nothingGoes();
        onlyToSigned();
        signedsToList();
        otherMovesGoOn();
        inOrder();
        itsOwnDraft();
        cameOver();
        cameOverOfRefused();
        tenThousandth();
        due.end();
    }

    /** Form 0 has texts a 0, b 1, c 2 and a group 3; form 1 a signed 0, a list 1, a text 2, an entry 3; entries 0, 2 are not SIGNED. */
    private static FormMill office() {
        FormMill mill = Due.with("form; text a 1; text b 1; text c 1; group g { }");
        Due.form(mill, "form; signed s 8; list l 8; text t 8; entry e;");
        mill.entry(1, 10, NONE);
        mill.entry(2, 20, 0);
        mill.entry(3, 30, NONE);
        mill.entry(4, 40, 9);
        mill.draft(0);
        return mill;
    }

    private static void answer(FormMill mill, int draft, int part, int sort, long... items) {
        due.is("kindOf(" + draft + ", " + part + ")", mill.kindOf(draft, part), sort);
        due.is("item(" + draft + ", " + part + ", -1)", mill.item(draft, part, -1), items.length);
        for (int i = 0; i < items.length; i++) {
            due.is("item(" + draft + ", " + part + ", " + i + ")", mill.item(draft, part, i), items[i]);
        }
    }

    private static void fortyMoves() {
        due.promise(32, "MOVES (40); its number; BAD: also groups");
        FormMill mill = office();
        due.is("move(0, 3, 1, 0): from a group", mill.move(0, 3, 1, 0), BAD);
        due.is("move(1, 0, 0, 3): to a group", mill.move(1, 0, 0, 3), BAD);
        due.is("move(0, 4, 1, 0)", mill.move(0, 4, 1, 0), BAD);
        due.is("move(0, 0, 1, 4)", mill.move(0, 0, 1, 4), BAD);
        due.is("count(4)", mill.count(4), 0);
        for (int i = 0; i < 40; i++) {
            due.is("move()", mill.move(0, i % 3, 1, i % 4), i);
        }
        due.is("move() of a 41st", mill.move(0, 0, 1, 0), FULL);
        due.is("move() of a 41st, BAD", mill.move(0, 3, 1, 0), BAD);
        due.is("count(4)", mill.count(4), 40);
        due.is("cameOver(39)", mill.cameOver(39), NONE);
        due.is("cameOver(40)", mill.cameOver(40), BAD);
    }

    private static void sameForm() {
        due.promise(32, "to one of another form (or the same)");
        FormMill mill = office();
        due.is("move(0, 0, 0, 1)", mill.move(0, 0, 0, 1), 0);
        due.is("move(0, 1, 0, 0)", mill.move(0, 1, 0, 0), 1);
        due.is("move(0, 2, 0, 2): the same part", mill.move(0, 2, 0, 2), 2);
        Due.give(mill, 0, 0, 1, 5);
        Due.give(mill, 0, 2, 2, 6);
        due.is("migrate(0, 0)", mill.migrate(0, 0), 1);
        due.is("kindOf(1, 0)", mill.kindOf(1, 0), NONE);
        answer(mill, 1, 1, 1, 5);
        answer(mill, 1, 2, 2, 6);
        due.is("migrate(0, 1): those moves are not for it", mill.migrate(0, 1), 2);
        due.is("kindOf(2, 2)", mill.kindOf(2, 2), NONE);
        due.is("cameOver(0)", mill.cameOver(0), NONE);
    }

    private static void noMoves() {
        due.promise(33, "MIGRATING: the new DRAFT, without any MOVE");
        FormMill mill = office();
        Due.give(mill, 0, 0, 1, 5);
        due.is("migrate(0, 1)", mill.migrate(0, 1), 1);
        due.is("migrate(0, 0)", mill.migrate(0, 0), 2);
        due.is("digest(1)", mill.digest(1), 17);
        due.is("digest(2)", mill.digest(2), 17);
        due.is("kindOf(1, 3): it is of form 1", mill.kindOf(1, 3), NONE);
        due.is("kindOf(2, 3): it is of form 0", mill.kindOf(2, 3), BAD);
        due.is("item(0, 0, 0): the old one stays", mill.item(0, 0, 0), 5);
    }

    private static void fortyAtOnce() {
        due.promise(33, "for each MOVE from the one form to the other: 40 of them");
        FormMill mill = office();
        for (int i = 0; i < 40; i++) {
            mill.move(0, i % 3, 1, i % 2 + 2);
        }
        Due.give(mill, 0, 0, 1, 1);
        Due.give(mill, 0, 1, 1, 1, 2);
        Due.give(mill, 0, 2, 1, 1, 2, 3);
        due.is("migrate(0, 1)", mill.migrate(0, 1), 1);
        for (int i = 0; i < 40; i++) {
            due.is("cameOver(" + i + ")", mill.cameOver(i), i % 3 + 1);
        }
        // The last ones are 38, from c to t, and 39, from a to e.
        answer(mill, 1, 2, 1, 1, 2, 3);
        answer(mill, 1, 3, 1, 1);
    }

    private static void nothingToo() {
        due.promise(33, "its answer is copied (NOTHING, too)");
        FormMill mill = office();
        mill.move(0, 0, 1, 2);
        mill.move(0, 1, 1, 2);
        Due.give(mill, 0, 0, 1, 5);
        due.is("migrate(0, 1)", mill.migrate(0, 1), 1);
        due.is("kindOf(1, 2): NOTHING took its place", mill.kindOf(1, 2), NONE);
        due.is("cameOver(0)", mill.cameOver(0), 1);
        due.is("cameOver(1)", mill.cameOver(1), 0);
        due.is("no FAILURE", mill.count(7), 0);
    }

    private static void emptyAndLongRows() {
        due.promise(33, "all else to a new row of items of its SORT");
        for (int sort = 0; sort <= 6; sort++) {
            for (int n : new int[] {0, 1, sort == 4 ? 6 : 12}) {
                FormMill mill = office();
                mill.move(0, 0, 1, 2);
                mill.desk(sort, n);
                mill.write(n - 1, 65535);
                mill.seat(n - 1, 1);
                mill.line(n - 1, 3);
                mill.give(0, 0);
                due.is("migrate(0, 1)", mill.migrate(0, 1), 1);
                due.is("cameOver(0)", mill.cameOver(0), n);
                due.is("kindOf(1, 2)", mill.kindOf(1, 2), sort);
                due.is("item(1, 2, -1)", mill.item(1, 2, -1), n);
                for (int i = -2; i <= n; i++) {
                    due.is("item(1, 2, " + i + ")", mill.item(1, 2, i), mill.item(0, 0, i));
                }
            }
        }
        FormMill edges = office();
        edges.move(0, 0, 1, 2);
        Due.give(edges, 0, 0, 2, Long.MIN_VALUE, Long.MAX_VALUE);
        edges.migrate(0, 1);
        answer(edges, 1, 2, 2, Long.MIN_VALUE, Long.MAX_VALUE);
    }

    private static void rowsWithNewRows() {
        due.promise(33, "rows with new rows");
        FormMill mill = office();
        mill.move(0, 0, 1, 2);
        Due.rows(mill, new int[] {Integer.MIN_VALUE, 2, 3, 4, 5, Integer.MAX_VALUE}, null, new int[0]);
        mill.give(0, 0);
        due.is("migrate(0, 1)", mill.migrate(0, 1), 1);
        answer(mill, 1, 2, 4, 6, NONE, 0);
        due.is("cellOf(1, 2, 0, 0)", mill.cellOf(1, 2, 0, 0), Integer.MIN_VALUE);
        due.is("cellOf(1, 2, 0, 5)", mill.cellOf(1, 2, 0, 5), Integer.MAX_VALUE);
        due.is("cameOver(0): rows", mill.cameOver(0), 3);
    }

    private static void oneEntry() {
        due.promise(33, "one ENTRY as it is");
        FormMill mill = office();
        for (int p = 0; p < 4; p++) {
            mill.move(0, 0, 1, p);
        }
        for (int e : new int[] {0, 3}) {
            mill.desk(7, e);
            mill.give(0, 0);
            int made = mill.migrate(0, 1);
            for (int p = 0; p < 4; p++) {
                answer(mill, made, p, 7, e);
                due.is("cameOver(" + p + "): 1 of one ENTRY", mill.cameOver(p), 1);
            }
        }
        due.is("no FAILURE, be it to a signed part", mill.count(7), 0);
    }

    private static void stopsAtEachPlace() {
        due.promise(33, "which STOPS at the first that is not SIGNED: those ahead of it have come over, all behind are NOTHING (a FAILURE: STORE)");
        for (int n = 1; n <= 12; n++) {
            for (int stop = 0; stop <= n; stop++) {
                FormMill mill = office();
                mill.move(0, 0, 1, 0);
                int[] seats = new int[n];
                java.util.Arrays.fill(seats, 1);
                if (stop < n) {
                    seats[stop] = 0;
                }
                Due.seats(mill, 5, seats);
                mill.give(0, 0);
                due.is("migrate(0, 1)", mill.migrate(0, 1), 1);
                due.is("FAILURES, stopped at " + stop + " of " + n, mill.count(7), stop < n ? 1 : 0);
                due.is("cameOver(0), stopped at " + stop + " of " + n, mill.cameOver(0), stop);
                due.is("kindOf(1, 0)", mill.kindOf(1, 0), 6);
                due.is("item(1, 0, -1)", mill.item(1, 0, -1), n);
                due.is("item ahead", mill.item(1, 0, stop - 1), stop == 0 ? n : 1);
                due.is("item there", mill.item(1, 0, stop), stop < n ? NONE : -100);
                due.is("the last item", mill.item(1, 0, n - 1), stop < n ? NONE : 1);
                due.is("the old one stays", mill.item(0, 0, n - 1), seats[n - 1]);
            }
        }
        FormMill none = office();
        none.move(0, 0, 1, 0);
        none.desk(5, 0);
        none.give(0, 0);
        due.is("migrate(0, 1) of no entries", none.migrate(0, 1), 1);
        answer(none, 1, 0, 6);
        due.is("cameOver(0)", none.cameOver(0), 0);
        due.is("count(7)", none.count(7), 0);
    }

    private static void nothingGoes() {
        due.promise(33, "(NOTHING goes)");
        FormMill mill = office();
        mill.move(0, 0, 1, 0);
        Due.seats(mill, 5, -1, 3, -1);
        mill.give(0, 0);
        mill.migrate(0, 1);
        answer(mill, 1, 0, 6, NONE, 3, NONE);
        due.is("cameOver(0)", mill.cameOver(0), 3);
        due.is("count(7)", mill.count(7), 0);
        Due.seats(mill, 5, -1, -1, 2, 3, 1);
        mill.give(0, 0);
        mill.migrate(0, 1);
        answer(mill, 2, 0, 6, NONE, NONE, NONE, NONE, NONE);
        due.is("cameOver(0)", mill.cameOver(0), 2);
        due.is("count(7)", mill.count(7), 1);
    }

    private static void onlyToSigned() {
        due.promise(33, "entries (no signeds) that go to a signed part");
        FormMill mill = office();
        for (int p = 0; p < 4; p++) {
            mill.move(0, 0, 1, p);
        }
        Due.seats(mill, 5, 1, 0, 1);
        mill.give(0, 0);
        mill.migrate(0, 1);
        answer(mill, 1, 0, 6, 1, NONE, NONE);
        for (int p = 1; p < 4; p++) {
            answer(mill, 1, p, 5, 1, 0, 1);
            due.is("cameOver(" + p + ")", mill.cameOver(p), 3);
        }
        due.is("count(7)", mill.count(7), 1);
        for (int sort = 0; sort <= 4; sort++) {
            mill.desk(sort, 2);
            mill.give(0, 0);
            int made = mill.migrate(0, 1);
            due.is("kindOf() of sort " + sort + " in a signed part", mill.kindOf(made, 0), sort);
            due.is("cameOver(0)", mill.cameOver(0), 2);
        }
        due.is("count(7)", mill.count(7), 1);
    }

    private static void signedsToList() {
        due.promise(33, "and signeds that go to a list to a row of entries");
        FormMill mill = office();
        for (int p = 0; p < 4; p++) {
            mill.move(0, 0, 1, p);
        }
        Due.seats(mill, 6, 1, -1, 3);
        mill.give(0, 0);
        mill.migrate(0, 1);
        int[] sorts = {6, 5, 6, 6};
        for (int p = 0; p < 4; p++) {
            answer(mill, 1, p, sorts[p], 1, NONE, 3);
            due.is("cameOver(" + p + ")", mill.cameOver(p), 3);
        }
        mill.desk(6, 0);
        mill.give(0, 0);
        mill.migrate(0, 1);
        for (int p = 0; p < 4; p++) {
            answer(mill, 2, p, sorts[p]);
            due.is("cameOver(" + p + ")", mill.cameOver(p), 0);
        }
        due.is("count(7)", mill.count(7), 0);
    }

    private static void otherMovesGoOn() {
        due.promise(33, "(this is a FAILURE, too: STORE; other MOVES go on)");
        FormMill mill = office();
        mill.move(0, 0, 1, 0);
        mill.move(0, 1, 1, 0);
        mill.move(0, 0, 1, 2);
        mill.move(0, 1, 1, 3);
        Due.seats(mill, 5, 0);
        mill.give(0, 0);
        Due.seats(mill, 5, 1, 0);
        mill.give(0, 1);
        due.is("migrate(0, 1)", mill.migrate(0, 1), 1);
        due.is("count(7): each that STOPS", mill.count(7), 2);
        answer(mill, 1, 0, 6, 1, NONE);
        answer(mill, 1, 2, 5, 0);
        answer(mill, 1, 3, 5, 1, 0);
        int[] came = {0, 1, 1, 2};
        for (int m = 0; m < 4; m++) {
            due.is("cameOver(" + m + ")", mill.cameOver(m), came[m]);
        }
        due.is("told(3) is of others", mill.told(3), NONE);
    }

    private static void inOrder() {
        due.promise(33, "in order");
        FormMill mill = office();
        mill.move(0, 0, 1, 2);
        mill.move(0, 1, 1, 2);
        mill.move(0, 2, 1, 2);
        Due.give(mill, 0, 0, 1, 1);
        Due.give(mill, 0, 1, 2, 2);
        Due.give(mill, 0, 2, 3, 3);
        mill.migrate(0, 1);
        answer(mill, 1, 2, 3, 3);
    }

    private static void itsOwnDraft() {
        due.promise(33, "makes a new one of that");
        FormMill mill = office();
        mill.move(0, 0, 1, 2);
        Due.give(mill, 0, 0, 1, 5);
        mill.migrate(0, 1);
        due.is("takeBack(0)", mill.takeBack(0), 0);
        answer(mill, 1, 2, 1, 5);
        due.is("give(1, 2): its first giving", mill.give(1, 2), 1);
        due.is("kindOf(0, 0)", mill.kindOf(0, 0), NONE);
        due.is("takeBack(1)", mill.takeBack(1), 2);
        answer(mill, 1, 2, 1, 5);
        due.is("count(8)", mill.count(8), 2);
        due.is("submit(0, 0)", mill.submit(0, 0), 1);
        due.is("migrate(0, 1) of a FILED one", mill.migrate(0, 1), 2);
        due.is("receipt(2)", mill.receipt(2), NONE);
        due.is("count(3)", mill.count(3), 1);
    }

    private static void cameOver() {
        due.promise(34, "NONE: it was not asked for. BAD.");
        FormMill mill = office();
        due.is("cameOver(0)", mill.cameOver(0), BAD);
        mill.move(0, 0, 1, 2);
        mill.move(1, 2, 0, 0);
        mill.move(0, 0, 0, 1);
        for (int m = 0; m < 3; m++) {
            due.is("cameOver(" + m + ") ahead of any", mill.cameOver(m), NONE);
        }
        due.is("cameOver(3)", mill.cameOver(3), BAD);
        due.is("cameOver(-1)", mill.cameOver(-1), BAD);
        Due.give(mill, 0, 0, 1, 5, 6);
        int[][] want = {{2, NONE, NONE}, {NONE, 2, NONE}, {NONE, NONE, 2}};
        int[][] calls = {{0, 1}, {1, 0}, {0, 0}};
        for (int k = 0; k < 3; k++) {
            due.is("migrate()", mill.migrate(calls[k][0], calls[k][1]), k + 1);
            for (int m = 0; m < 3; m++) {
                due.is("cameOver(" + m + ") behind " + k, mill.cameOver(m), want[k][m]);
            }
        }
        mill.move(0, 0, 0, 2);
        due.is("cameOver(3) of one that came behind it", mill.cameOver(3), NONE);
    }

    private static void cameOverOfRefused() {
        due.promise(34, "By the latest migrate() that was not refused");
        FormMill mill = office();
        mill.move(0, 0, 1, 2);
        Due.give(mill, 0, 0, 1, 5, 6);
        mill.migrate(0, 1);
        mill.migrate(9, 1);
        mill.migrate(0, 9);
        due.is("cameOver(0)", mill.cameOver(0), 2);
        Office.draftsOf(mill, 30);
        due.is("migrate(0, 0)", mill.migrate(0, 0), FULL);
        due.is("cameOver(0)", mill.cameOver(0), 2);
    }

    private static void tenThousandth() {
        due.promise(33, "FULL");
        FormMill mill = Failing.upTo(9999);
        Due.form(mill, "form; signed s 8; signed t 8;");
        mill.move(0, 0, 2, 0);
        mill.move(0, 0, 2, 1);
        mill.entry(1, 1, NONE);
        Due.seats(mill, 5, 0, 1);
        mill.give(0, 0);
        due.is("migrate(0, 2): two FAILURES", mill.migrate(0, 2), 2);
        due.is("count(7)", mill.count(7), 10001);
        due.is("cameOver(1)", mill.cameOver(1), 1);
        due.is("migrate(0, 2)", mill.migrate(0, 2), FULL);
        due.is("migrate(0, 0): without any MOVE", mill.migrate(0, 0), FULL);
        due.is("cameOver(1) stays", mill.cameOver(1), 1);
        due.is("count(2)", mill.count(2), 3);
    }
}
