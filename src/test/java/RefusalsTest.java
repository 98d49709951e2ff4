import java.util.function.ToLongFunction;

/** "Of several refusals the first one here: BAD, STATE, FULL; they change nothing": each call, by each number that it refuses. */
public final class RefusalsTest {
    private static final Due due = new Due("RefusalsTest");
    private static final int BAD = FormMill.BAD, STATE = FormMill.STATE, FULL = FormMill.FULL, LATE = FormMill.LATE, NONE = FormMill.NONE;
    private static final int MIN = Integer.MIN_VALUE, MAX = Integer.MAX_VALUE;

    public static void main(String[] args) {
        badTexts();
        badDesk();
        badDrafts();
        badWorking();
        badFiling();
        badMoves();
        badSearches();
        badDisk();
        states();
        fullTape();
        fullForms();
        fullEntries();
        fullDrafts();
        fullGivings();
        fullMoves();
        fullDisk();
        failures();
        deskFailures();
        orders();
        due.end();
    }

    private interface One {
        long of(FormMill mill, int n);
    }

    /** A call with one number that is not as told, by each such number. */
    private static void bad(String call, long want, One put, int... numbers) {
        Twins twins = new Twins(due, "busy", Office::busy);
        for (int n : numbers) {
            twins.refuse(call.replace("#", "" + n), mill -> put.of(mill, n), want);
        }
    }

    private static void badTexts() {
        due.promise(2, "feed: BAD");
        bad("feed(#, 1)", BAD, (m, n) -> m.feed(n, 1), 0, -1, 9, MIN, MAX);
        due.promise(4, "about: BAD");
        bad("about(#, 0)", -100, (m, n) -> m.about(n, 0), -1, 3, MIN, MAX);
        bad("about(0, #)", -100, (m, n) -> m.about(0, n), -1, 6, MIN, MAX);
        due.promise(5, "part: BAD");
        bad("part(#, 0, 0)", -100, (m, n) -> m.part(n, 0, 0), -1, 3, MIN, MAX);
        bad("part(0, #, 0)", -100, (m, n) -> m.part(0, n, 0), -1, 5, MIN, MAX);
        bad("part(0, 0, #)", -100, (m, n) -> m.part(0, 0, n), -1, 3, MIN, MAX);
    }

    private static void badDesk() {
        due.promise(6, "entry: BAD");
        bad("entry(#, 1, 1)", BAD, (m, n) -> m.entry(n, 1, 1), -1, 1000, MIN, MAX);
        bad("entry(1, 1, #)", BAD, (m, n) -> m.entry(1, 1, n), -1, -8, -10, 10, MIN, MAX);
        due.promise(7, "desk: BAD");
        bad("desk(#, 1)", BAD, (m, n) -> m.desk(n, 1), -1, 8, MIN, MAX);
        for (int sort : new int[] {0, 1, 2, 3, 5, 6}) {
            bad("desk(" + sort + ", #)", BAD, (m, n) -> m.desk(sort, n), 13, MAX);
        }
        bad("desk(4, #)", BAD, (m, n) -> m.desk(4, n), 7, 12, 13, MAX);
        bad("desk(7, #)", BAD, (m, n) -> m.desk(7, n), -1, 3, MIN, MAX);
        due.promise(10, "line: BAD");
        bad("line(0, #)", BAD, (m, n) -> m.line(0, n), 7, MAX);
        due.promise(12, "seat: BAD");
        bad("seat(0, #)", BAD, (m, n) -> m.seat(0, n), -2, NONE, 3, MIN, MAX);
    }

    private static void badDrafts() {
        due.promise(14, "draft: BAD");
        bad("draft(#)", BAD, (m, n) -> m.draft(n), -1, 3, MIN, MAX);
        due.promise(15, "give: BAD");
        bad("give(#, 0)", BAD, (m, n) -> m.give(n, 0), -1, 4, MIN, MAX);
        bad("give(1, #): also a group", BAD, (m, n) -> m.give(1, n), -1, 1, 5, MIN, MAX);
        due.promise(16, "takeBack: BAD");
        bad("takeBack(#)", BAD, (m, n) -> m.takeBack(n), -1, 4, MIN, MAX);
        due.promise(17, "kindOf: BAD");
        bad("kindOf(#, 0)", BAD, (m, n) -> m.kindOf(n, 0), -1, 4, MIN, MAX);
        bad("kindOf(1, #): also a group", BAD, (m, n) -> m.kindOf(1, n), -1, 1, 5, MIN, MAX);
        due.promise(18, "item: BAD");
        bad("item(#, 0, 0)", -100, (m, n) -> m.item(n, 0, 0), -1, 4, MIN, MAX);
        bad("item(1, #, 0): also a group, NOTHING", -100, (m, n) -> m.item(1, n, 0), -1, 1, 2, 5, MIN, MAX);
        bad("item(1, 3, #)", -100, (m, n) -> m.item(1, 3, n), -2, 2, MIN, MAX);
        due.promise(19, "cellOf: BAD");
        bad("cellOf(#, 0, 0, 0)", 0, (m, n) -> m.cellOf(n, 0, 0, 0), -1, 4, MIN, MAX);
        bad("cellOf(1, #, 0, 0)", 0, (m, n) -> m.cellOf(1, n, 0, 0), -1, 1, 2, 3, 5, MIN, MAX);
        due.promise(20, "digest: BAD");
        bad("digest(#)", 0, (m, n) -> m.digest(n), -1, 4, MIN, MAX);
    }

    private static void badWorking() {
        due.promise(21, "check: BAD");
        bad("check(#)", BAD, (m, n) -> m.check(n), -1, 4, MIN, MAX);
        due.promise(22, "finding: BAD");
        bad("finding(#, 0)", -100, (m, n) -> m.finding(n, 0), -1, 1, MIN, MAX);
        bad("finding(0, #)", -100, (m, n) -> m.finding(0, n), -1, 5, MIN, MAX);
        due.promise(23, "shown: BAD");
        bad("shown(#, 0)", BAD, (m, n) -> m.shown(n, 0), -1, 4, MIN, MAX);
        bad("shown(1, #)", BAD, (m, n) -> m.shown(1, n), -1, 5, MIN, MAX);
        due.promise(24, "figure: BAD");
        bad("figure(#, 0)", BAD, (m, n) -> m.figure(n, 0), -1, 4, MIN, MAX);
        bad("figure(1, #)", BAD, (m, n) -> m.figure(1, n), -1, 2, MIN, MAX);
        bad("figure(3, #): its form has none", BAD, (m, n) -> m.figure(3, n), 0);
        due.promise(26, "told: BAD");
        bad("told(#)", BAD, (m, n) -> m.told(n), -1, 4, MIN, MAX);
    }

    private static void badFiling() {
        due.promise(27, "submit: BAD");
        bad("submit(#, 0)", BAD, (m, n) -> m.submit(n, 0), -1, 4, MIN, MAX);
        bad("submit(3, #)", BAD, (m, n) -> m.submit(3, n), -1, 10000, MIN, MAX);
        due.promise(28, "receipt: BAD");
        bad("receipt(#)", BAD, (m, n) -> m.receipt(n), -1, 4, MIN, MAX);
        due.promise(29, "earlier: BAD");
        bad("earlier(#, 0)", BAD, (m, n) -> m.earlier(n, 0), -1, 4, MIN, MAX);
        bad("earlier(0, #)", BAD, (m, n) -> m.earlier(0, n), -1, 4, MIN, MAX);
        due.promise(30, "sign: BAD");
        bad("sign(#, 1)", BAD, (m, n) -> m.sign(n, 1), -1, 4, MIN, MAX);
        bad("sign(0, #)", BAD, (m, n) -> m.sign(0, n), -1, 2, MIN, MAX);
        due.promise(31, "stats: BAD");
        bad("stats(#, 0, 0)", -100, (m, n) -> m.stats(n, 0, 0), -1, 3, MIN, MAX);
        bad("stats(0, #, 0): also a group", -100, (m, n) -> m.stats(0, n, 0), -1, 1, 5, MIN, MAX);
        bad("stats(0, 0, #)", -100, (m, n) -> m.stats(0, 0, n), -1, 3, MIN, MAX);
    }

    private static void badMoves() {
        due.promise(32, "move: BAD");
        bad("move(#, 0, 1, 0)", BAD, (m, n) -> m.move(n, 0, 1, 0), -1, 3, MIN, MAX);
        bad("move(0, #, 1, 0): also groups", BAD, (m, n) -> m.move(0, n, 1, 0), -1, 1, 5, MIN, MAX);
        bad("move(0, 0, #, 0)", BAD, (m, n) -> m.move(0, 0, n, 0), -1, 3, MIN, MAX);
        bad("move(1, 0, 0, #): also groups", BAD, (m, n) -> m.move(1, 0, 0, n), -1, 1, 5, MIN, MAX);
        due.promise(33, "migrate: BAD");
        bad("migrate(#, 1)", BAD, (m, n) -> m.migrate(n, 1), -1, 4, MIN, MAX);
        bad("migrate(1, #)", BAD, (m, n) -> m.migrate(1, n), -1, 3, MIN, MAX);
        due.promise(34, "cameOver: BAD");
        bad("cameOver(#)", BAD, (m, n) -> m.cameOver(n), -1, 2, MIN, MAX);
    }

    private static void badSearches() {
        due.promise(35, "shortest: BAD");
        bad("shortest(#, 1)", BAD, (m, n) -> m.shortest(n, 1), -1, 3, MIN, MAX);
        bad("shortest(2, #)", BAD, (m, n) -> m.shortest(2, n), -1, 0, 101, MIN, MAX);
        bad("shortest(1, #)", BAD, (m, n) -> m.shortest(1, n), -1, 0, 101, MIN, MAX);
        new Twins(due, "with a form of 9 parts", RefusalsTest::wide).refuse("shortest(3, 1)", m -> m.shortest(3, 1), BAD);
        due.promise(36, "proof: BAD");
        bad("proof(#)", -1, (m, n) -> m.proof(n), -1, 9, MIN, MAX);
    }

    private static FormMill wide() {
        return withForm(Office.busy(), "; yes b; yes c; yes d; yes e; yes f; yes g; yes h; yes i;");
    }

    /** Ends the text that is on the tape of a busy office, so that it is form 3. */
    private static FormMill withForm(FormMill mill, String rest) {
        due.is("form() of a busy office", Due.form(mill, rest), 3);
        return mill;
    }

    private static void badDisk() {
        due.promise(38, "export: BAD");
        bad("export(#)", BAD, (m, n) -> m.export(n), -1, 4, MIN, MAX);
        due.promise(39, "disk: BAD");
        int bytes = Office.busy().count(6);
        bad("disk(#)", BAD, (m, n) -> m.disk(n), -1, bytes, MIN, MAX);
        due.promise(40, "alter: BAD");
        bad("alter(#, 1)", BAD, (m, n) -> m.alter(n, 1), -1, bytes, MIN, MAX);
        bad("alter(0, #)", BAD, (m, n) -> m.alter(0, n), -1, 256, MIN, MAX);
        due.promise(41, "cutDisk: BAD");
        bad("cutDisk(#)", BAD, (m, n) -> m.cutDisk(n), -1, bytes + 1, MIN, MAX);
        due.promise(42, "take: BAD");
        bad("take(#)", BAD, (m, n) -> m.take(n), -1, 3, MIN, MAX);
        due.promise(42, "take: a row that is wrong makes no DRAFT");
        bad("take(#)", -11, (m, n) -> m.take(n), 1);
        due.promise(43, "count: BAD");
        bad("count(#)", BAD, (m, n) -> m.count(n), -1, 9, MIN, MAX);
    }

    private static void states() {
        Twins busy = new Twins(due, "busy", Office::busy);
        due.promise(15, "give: STATE: it is FILED");
        busy.refuse("give(0, 0)", m -> m.give(0, 0), STATE);
        due.promise(16, "takeBack: STATE: it is FILED");
        busy.refuse("takeBack(0)", m -> m.takeBack(0), STATE);
        due.promise(16, "takeBack: STATE: answers that were not given");
        busy.refuse("takeBack(3)", m -> m.takeBack(3), STATE);
        due.promise(27, "submit: STATE: it is; LATE: behind until");
        busy.refuse("submit(0, 50)", m -> m.submit(0, 50), STATE);
        busy.refuse("submit(1, 51)", m -> m.submit(1, 51), LATE);
        busy.refuse("submit(1, 9999)", m -> m.submit(1, 9999), LATE);
        due.promise(28, "receipt: NONE: it is not FILED");
        busy.refuse("receipt(1)", m -> m.receipt(1), NONE);
        due.promise(29, "earlier: STATE: one is not FILED");
        busy.refuse("earlier(0, 1)", m -> m.earlier(0, 1), STATE);
        busy.refuse("earlier(1, 0)", m -> m.earlier(1, 0), STATE);
        busy.refuse("earlier(1, 1)", m -> m.earlier(1, 1), STATE);
        due.promise(30, "sign: STATE: not FILED, or another one is next");
        busy.refuse("sign(1, 0)", m -> m.sign(1, 0), STATE);
        busy.refuse("sign(0, 0), who has signed", m -> m.sign(0, 0), STATE);
        busy.refuse("sign(2, 1), whose turn comes later", m -> m.sign(2, 1), STATE);
        due.promise(37, "keep: STATE: none is found");
        busy.refuse("keep()", m -> m.keep(), STATE);
        new Twins(due, "new", FormMill::new).refuse("keep()", m -> m.keep(), STATE);
    }

    private static void fullTape() {
        due.promise(2, "feed: FULL");
        for (int n = 1; n <= 8; n++) {
            int bytes = n;
            new Twins(due, "a tape of " + (1401 - n), () -> Office.tapeOf(new FormMill(), 1401 - bytes))
                .refuse("feed(" + n + ", ..)", m -> m.feed(bytes, 0x7979797979797979L), FULL);
            due.is("feed(" + n + ", ..) up to 1400", Office.tapeOf(new FormMill(), 1400 - n).feed(n, 0x2020202020202020L), 1400);
        }
        Twins full = new Twins(due, "a tape of 1400", () -> Office.tapeOf(new FormMill(), 1400));
        full.refuse("feed(1, ..)", m -> m.feed(1, ' '), FULL);
        full.refuse("feed(0, ..): BAD ahead of FULL", m -> m.feed(0, ' '), BAD);
        full.refuse("feed(9, ..): BAD ahead of FULL", m -> m.feed(9, ' '), BAD);
    }

    /** The tape goes; so it is emptied on the other side, by a text that is no form. */
    private static void fullForms() {
        due.promise(3, "form: FULL, the tape is empty then, too");
        Twins full = new Twins(due, "10 forms", () -> Office.formsOf(withForm(Office.busy(), ";"), 10));
        full.refuse("form() of no text", m -> m.form(), FULL);
        full.refuse("form() of a text", m -> Due.form(m, "form;"), FULL);
        full.refuse("form() of a wrong text", m -> Due.form(m, "what"), FULL);
        due.promise(3, "form: THE FAULT uses the tape up and changes nothing else");
        Twins some = new Twins(due, "4 forms", () -> withForm(Office.busy(), ";"));
        some.refuse("form() of no text", m -> m.form(), -10);
        String text = "form; until 9; signers 5; yes z when 1; figure y = z; check 1 x;";
        some.refuse("form() of a text with a fault", m -> Due.form(m, text), -10 - text.indexOf("x;"));
        Twins nine = new Twins(due, "9 forms", () -> Office.formsOf(withForm(Office.busy(), ";"), 9));
        nine.refuse("form() of a wrong text", m -> Due.form(m, "form; yes 5;"), -20);
        due.is("form() of the tenth", Due.form(Office.formsOf(new FormMill(), 9), "form;"), 9);
    }

    private static void fullEntries() {
        due.promise(6, "entry: FULL");
        Twins full = new Twins(due, "100 entries", () -> Office.entriesOf(Office.busy(), 100));
        full.refuse("entry(1, 1, 1)", m -> m.entry(1, 1, 1), FULL);
        full.refuse("entry(1, 1, NONE)", m -> m.entry(1, 1, NONE), FULL);
        full.refuse("entry(1000, 1, 1): BAD ahead of FULL", m -> m.entry(1000, 1, 1), BAD);
        full.refuse("entry(-1, 1, 1): BAD ahead of FULL", m -> m.entry(-1, 1, 1), BAD);
        full.refuse("desk(7, 100)", m -> m.desk(7, 100), BAD);
        full.refuse("seat(0, 100)", m -> m.seat(0, 100), BAD);
        due.is("entry() of the hundredth", Office.entriesOf(new FormMill(), 99).entry(1, 1, 1), 99);
        due.is("desk(7, 99)", Office.entriesOf(new FormMill(), 100).desk(7, 99), 0);
    }

    private static void fullDrafts() {
        Twins full = new Twins(due, "30 drafts", () -> Office.draftsOf(Office.busy(), 30));
        due.promise(14, "draft: FULL");
        full.refuse("draft(0)", m -> m.draft(0), FULL);
        full.refuse("draft(3): BAD ahead of FULL", m -> m.draft(3), BAD);
        due.is("draft() of the thirtieth", Office.draftsOf(Office.busy(), 29).draft(0), 29);
        due.promise(33, "migrate: FULL (also: 30 DRAFTS)");
        full.refuse("migrate(1, 1)", m -> m.migrate(1, 1), FULL);
        full.refuse("migrate(1, 3): BAD ahead of FULL", m -> m.migrate(1, 3), BAD);
        full.refuse("migrate(30, 1): BAD ahead of FULL", m -> m.migrate(30, 1), BAD);
        due.is("migrate() of the thirtieth", Office.draftsOf(Office.busy(), 29).migrate(1, 1), 29);
        due.promise(42, "take: FULL");
        full.refuse("take(0)", m -> m.take(0), FULL);
        full.refuse("take(1): FULL ahead of wrong rows", m -> m.take(1), FULL);
        full.refuse("take(3): BAD ahead of FULL", m -> m.take(3), BAD);
        due.is("take() of the thirtieth", Office.draftsOf(Office.busy(), 29).take(0), 29);
        due.promise(37, "keep: FULL");
        Twins found = new Twins(due, "30 drafts, one found", () -> found(30));
        found.refuse("keep()", m -> m.keep(), FULL);
        due.is("keep() of the thirtieth", found(29).keep(), 29);
        due.promise(37, "keep: STATE ahead of FULL");
        full.refuse("keep()", m -> m.keep(), STATE);
    }

    /** An office with so many drafts, that has found a filling of two answers. */
    private static FormMill found(int drafts) {
        FormMill mill = withForm(Office.busy(), "; must yes b; check 1 has q;");
        mill.shortest(3, 100);
        return Office.draftsOf(mill, drafts);
    }

    /** A little office of three drafts, the first FILED, with a found filling of two answers: 400 calls go for givings. */
    private static FormMill givings(int givings) {
        FormMill mill = Due.with("form; must yes a; must yes b;");
        mill.shortest(0, 10);
        mill.shortest(0, 10);
        mill.keep();
        mill.submit(0, 0);
        mill.draft(0);
        mill.draft(0);
        Due.hold(mill, 0, 1);
        return Office.givingsOf(mill, 1, givings);
    }

    private static void fullGivings() {
        due.promise(15, "give: FULL: 400 givings ever");
        FormMill mill = givings(399);
        due.is("give() of the 400th", mill.give(1, 1), 398);
        due.is("give() of the 401st", mill.give(1, 1), FULL);
        due.is("give() of the 401st, to another one", mill.give(2, 1), FULL);
        due.is("BAD ahead of FULL", mill.give(1, 2), BAD);
        due.is("STATE ahead of FULL", mill.give(0, 0), STATE);
        mill.desk(1, 1);
        due.is("give()", mill.give(1, 1), FULL);
        due.is("the desk stays", mill.sort(), 1);
        due.is("what is undone was given, too", mill.takeBack(1), 1);
        due.is("give()", mill.give(1, 1), FULL);
        due.is("takeBack(1): the one ahead", mill.takeBack(1), 0);
        due.is("count(8)", mill.count(8), 400);
        due.promise(37, "keep: FULL (also: its givings would be above 400; none is made then)");
        FormMill above = givings(399);
        due.is("keep(): 401", above.keep(), FULL);
        due.is("count(2)", above.count(2), 3);
        due.is("count(8)", above.count(8), 399);
        due.is("give() of the 400th", above.give(2, 0), 1);
        due.is("keep(): 402", above.keep(), FULL);
        FormMill just = givings(398);
        due.is("keep(): 400", just.keep(), 3);
        due.is("count(8)", just.count(8), 400);
        due.is("keep(): 402", just.keep(), FULL);
        due.is("take(0): it has no givings", just.take(0), 4);
        due.is("migrate(0, 0): it has no givings", just.migrate(0, 0), 5);
    }

    private static void fullMoves() {
        due.promise(32, "move: FULL");
        Twins full = new Twins(due, "40 moves", () -> Office.movesOf(Office.busy(), 40));
        full.refuse("move(0, 0, 1, 0)", m -> m.move(0, 0, 1, 0), FULL);
        full.refuse("move(0, 1, 1, 0): BAD ahead of FULL", m -> m.move(0, 1, 1, 0), BAD);
        full.refuse("move(0, 0, 3, 0): BAD ahead of FULL", m -> m.move(0, 0, 3, 0), BAD);
        full.refuse("cameOver(40)", m -> m.cameOver(40), BAD);
        full.refuse("cameOver(39)", m -> m.cameOver(39), NONE);
        due.is("move() of the fortieth", Office.movesOf(Office.busy(), 39).move(0, 0, 1, 0), 39);
    }

    /** Drafts of 12 parts with 12 moneys each have 1212 bytes; with the last one shorter by two 1196. */
    private static void fullDisk() {
        due.promise(38, "export: FULL: it would be more (THE DISK stays)");
        Twins full = new Twins(due, "1212 bytes", RefusalsTest::large);
        full.refuse("export(4)", m -> m.export(4), FULL);
        full.refuse("export(5): BAD ahead of FULL", m -> m.export(5), BAD);
        FormMill mill = large();
        mill.desk(2, 10);
        mill.give(4, 0);
        due.is("export(4) of 1196", mill.export(4), 1196);
    }

    private static FormMill large() {
        StringBuilder rest = new StringBuilder(";");
        for (int p = 1; p < 12; p++) {
            rest.append("text p").append(p).append(" 1;");
        }
        FormMill mill = withForm(Office.busy(), rest.toString());
        mill.draft(3);
        for (int p = 0; p < 12; p++) {
            mill.desk(2, 12);
            mill.give(4, p);
        }
        return mill;
    }

    /** Behind 10000 FAILURES each call that says FULL and could FAIL; what can't goes on. */
    private static void failures() {
        Twins failed = new Twins(due, "10000 failures", Office::failed);
        due.promise(7, "desk: FULL");
        failed.refuse("desk(0, 1)", m -> m.desk(0, 1), FULL);
        failed.refuse("desk(1, -1): FULL ahead of SIZE", m -> m.desk(1, -1), FULL);
        failed.refuse("desk(7, 0)", m -> m.desk(7, 0), FULL);
        failed.refuse("desk(8, 1): BAD ahead", m -> m.desk(8, 1), BAD);
        failed.refuse("desk(1, 13): BAD ahead", m -> m.desk(1, 13), BAD);
        failed.refuse("desk(7, 3): BAD ahead", m -> m.desk(7, 3), BAD);
        due.promise(9, "write: FULL");
        failed.refuse("write(0, 0)", m -> m.write(0, 0), FULL);
        due.promise(10, "line: FULL");
        failed.refuse("line(0, 1)", m -> m.line(0, 1), FULL);
        failed.refuse("line(0, -1): FULL ahead of SIZE", m -> m.line(0, -1), FULL);
        failed.refuse("line(0, 7): BAD ahead", m -> m.line(0, 7), BAD);
        due.promise(11, "cell: FULL");
        failed.refuse("cell(0, 0, 1)", m -> m.cell(0, 0, 1), FULL);
        due.promise(12, "seat: FULL");
        failed.refuse("seat(0, 0)", m -> m.seat(0, 0), FULL);
        failed.refuse("seat(0, 3): BAD ahead", m -> m.seat(0, 3), BAD);
        due.promise(21, "check: FULL");
        failed.refuse("check(1)", m -> m.check(1), FULL);
        failed.refuse("check(4): BAD ahead", m -> m.check(4), BAD);
        due.promise(23, "shown: FULL");
        failed.refuse("shown(1, 0)", m -> m.shown(1, 0), FULL);
        failed.refuse("shown(1, 5): BAD ahead", m -> m.shown(1, 5), BAD);
        due.promise(24, "figure: FULL");
        failed.refuse("figure(1, 0)", m -> m.figure(1, 0), FULL);
        failed.refuse("figure(1, 2): BAD ahead", m -> m.figure(1, 2), BAD);
        due.promise(27, "submit: FULL");
        failed.refuse("submit(3, 0)", m -> m.submit(3, 0), FULL);
        failed.refuse("submit(0, 0): ahead of STATE", m -> m.submit(0, 0), FULL);
        failed.refuse("submit(1, 51): ahead of LATE", m -> m.submit(1, 51), FULL);
        failed.refuse("submit(3, 10000): BAD ahead", m -> m.submit(3, 10000), BAD);
        due.promise(31, "stats: FULL (of all three)");
        for (int what = 0; what < 3; what++) {
            int asked = what;
            failed.refuse("stats(0, 0, " + what + ")", m -> m.stats(0, 0, asked), -101);
        }
        failed.refuse("stats(0, 1, 0): BAD ahead", m -> m.stats(0, 1, 0), -100);
        due.promise(33, "migrate: FULL");
        failed.refuse("migrate(1, 1)", m -> m.migrate(1, 1), FULL);
        failed.refuse("migrate(1, 9): BAD ahead", m -> m.migrate(1, 9), BAD);
        due.promise(35, "shortest: FULL");
        failed.refuse("shortest(2, 1)", m -> m.shortest(2, 1), FULL);
        failed.refuse("shortest(4, 1)", m -> m.shortest(4, 1), FULL);
        failed.refuse("shortest(2, 0): BAD ahead", m -> m.shortest(2, 0), BAD);
        goesOnFailed();
    }

    private static void goesOnFailed() {
        due.promise(43, "behind 10000 FAILURES what can't FAIL goes on");
        FormMill mill = Office.failed();
        due.is("count(7)", mill.count(7) >= 10000 ? 1 : 0, 1);
        due.is("feed(1, ..)", mill.feed(1, ' '), 1);
        due.is("form()", mill.form(), -11);
        due.is("form()", Due.form(mill, "form;"), 5);
        due.is("entry(1, 1, 1)", mill.entry(1, 1, 1), 3);
        due.is("clear()", mill.clear(), 0);
        due.is("draft(0)", mill.draft(0), 4);
        due.is("give(4, 0)", mill.give(4, 0), 1);
        due.is("takeBack(4)", mill.takeBack(4), 0);
        due.is("sign(2, 0)", mill.sign(2, 0), 1);
        due.is("earlier(0, 2)", mill.earlier(0, 2), 0);
        due.is("move(0, 0, 1, 1)", mill.move(0, 0, 1, 1), 2);
        due.is("keep()", mill.keep(), STATE);
        due.is("take(0)", mill.take(0), 5);
        due.is("export(4)", mill.export(4), 0);
        due.is("take(0)", mill.take(0), 6);
    }

    private static void desk(FormMill mill, int sort) {
        if (sort < 0) {
            mill.clear();
        } else {
            mill.desk(sort, sort == 7 ? 0 : 2);
        }
    }

    private static FormMill holding(int sort) {
        FormMill mill = Office.busy();
        desk(mill, sort);
        return mill;
    }

    private static void fails(int sort, String call, ToLongFunction<FormMill> put, int kind) {
        new Twins(due, "the desk holds sort " + sort, () -> holding(sort)).fail(call, put, -10 - kind, 1);
    }

    /** A FAILURE at THE DESK leaves its OBJECT as it is. */
    private static void deskFailures() {
        for (int sort = -1; sort <= 7; sort++) {
            boolean isNothing = sort < 0;
            due.promise(7, "desk: SIZE: n below 0");
            fails(sort, "desk(1, -1)", m -> m.desk(1, -1), 6);
            fails(sort, "desk(4, MIN)", m -> m.desk(4, MIN), 6);
            due.promise(9, "write: NULL, CAST, INDEX");
            int writes = isNothing ? 1 : sort > 3 ? 2 : 3;
            fails(sort, "write(-1, 1)", m -> m.write(-1, 1), writes);
            fails(sort, "write(2, 1)", m -> m.write(2, 1), writes);
            fails(sort, "write(MAX, 1)", m -> m.write(MAX, 1), writes);
            fails(sort, "write(MIN, 1)", m -> m.write(MIN, 1), writes);
            due.promise(10, "line: SIZE, NULL, CAST, INDEX (in this order)");
            int lines = isNothing ? 1 : sort != 4 ? 2 : 3;
            fails(sort, "line(2, -1)", m -> m.line(2, -1), 6);
            fails(sort, "line(0, MIN)", m -> m.line(0, MIN), 6);
            fails(sort, "line(2, 0)", m -> m.line(2, 0), lines);
            fails(sort, "line(-1, 6)", m -> m.line(-1, 6), lines);
            due.promise(11, "cell: CAST, NULL, INDEX (of rows), NULL (the row)");
            fails(sort, "cell(2, 0, 1)", m -> m.cell(2, 0, 1), lines);
            fails(sort, "cell(-1, 0, 1)", m -> m.cell(-1, 0, 1), lines);
            fails(sort, "cell(1, 0, 1)", m -> m.cell(1, 0, 1), sort == 4 ? 1 : lines);
            fails(sort, "cell(1, -1, 1)", m -> m.cell(1, -1, 1), sort == 4 ? 1 : lines);
            due.promise(12, "seat: CAST, NULL, INDEX, STORE");
            int seats = isNothing ? 1 : sort != 5 && sort != 6 ? 2 : 3;
            fails(sort, "seat(2, 0)", m -> m.seat(2, 0), seats);
            fails(sort, "seat(-1, 0)", m -> m.seat(-1, 0), seats);
            fails(sort, "seat(2, -1)", m -> m.seat(2, -1), seats);
            if (sort == 6) {
                fails(sort, "seat(0, 0)", m -> m.seat(0, 0), 5);
            }
        }
        due.promise(11, "cell: INDEX");
        Twins busy = new Twins(due, "busy", Office::busy);
        busy.fail("cell(0, 2, 1)", m -> m.cell(0, 2, 1), -13, 1);
        busy.fail("cell(0, -1, 1)", m -> m.cell(0, -1, 1), -13, 1);
        busy.fail("cell(1, 0, 1)", m -> m.cell(1, 0, 1), -11, 1);
    }

    /** What is left of the pairs: BAD ahead of STATE, of LATE, of FAILURES; STATE ahead of LATE. */
    private static void orders() {
        Twins busy = new Twins(due, "busy", Office::busy);
        due.promise(15, "BAD ahead of STATE");
        busy.refuse("give(0, 5)", m -> m.give(0, 5), BAD);
        busy.refuse("give(0, 1)", m -> m.give(0, 1), BAD);
        due.promise(27, "BAD ahead of STATE, LATE; STATE ahead of LATE");
        busy.refuse("submit(0, 10000)", m -> m.submit(0, 10000), BAD);
        busy.refuse("submit(0, -1)", m -> m.submit(0, -1), BAD);
        busy.refuse("submit(1, 10000)", m -> m.submit(1, 10000), BAD);
        busy.refuse("submit(0, 51)", m -> m.submit(0, 51), STATE);
        due.promise(29, "BAD ahead of STATE");
        busy.refuse("earlier(1, 4)", m -> m.earlier(1, 4), BAD);
        busy.refuse("earlier(4, 1)", m -> m.earlier(4, 1), BAD);
        due.promise(30, "BAD ahead of STATE");
        busy.refuse("sign(1, 2)", m -> m.sign(1, 2), BAD);
        busy.refuse("sign(3, 0): its form has no signers", m -> m.sign(3, 0), BAD);
        due.promise(12, "BAD ahead of NULL, CAST, INDEX");
        busy.refuse("seat(9, 3)", m -> m.seat(9, 3), BAD);
        new Twins(due, "the desk holds NOTHING", () -> holding(-1)).refuse("seat(9, 3)", m -> m.seat(9, 3), BAD);
        due.promise(10, "BAD ahead of NULL, CAST, INDEX");
        busy.refuse("line(9, 7)", m -> m.line(9, 7), BAD);
        new Twins(due, "the desk holds NOTHING", () -> holding(-1)).refuse("line(9, 7)", m -> m.line(9, 7), BAD);
        new Twins(due, "the desk holds wholes", () -> holding(1)).refuse("line(9, 7)", m -> m.line(9, 7), BAD);
    }
}
