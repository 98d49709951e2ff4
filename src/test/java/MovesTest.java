/** Promises 32 to 34: moves from a form to another. */
public final class MovesTest {
    private static final Due due = new Due("MovesTest");
    private static final int NONE = FormMill.NONE;

    public static void main(String[] args) {
        move();
        migrate();
        stops();
        order();
        cameOver();
        full();
        due.end();
    }

    /** Form 0 has 7 parts of any kind, form 1 a signed, a list and a text; entries 0, 2 are not signed, 1, 3 are. */
    private static FormMill office() {
        FormMill mill = Due.with("form; text a 1; text b 1; group g { text c 1; } text d 1; text e 1; text f 1;");
        Due.form(mill, "form; signed s 8; list l 8; text t 8; group g { }");
        mill.entry(1, 10, NONE);
        mill.entry(2, 20, 5);
        mill.entry(3, 30, NONE);
        mill.entry(4, 40, 6);
        mill.draft(0);
        return mill;
    }

    private static void move() {
        due.promise(32, "move");
        FormMill mill = office();
        int[][] bad = {{2, 0, 1, 0}, {-1, 0, 1, 0}, {0, 7, 1, 0}, {0, -1, 1, 0}, {0, 2, 1, 0}, {0, 0, 2, 0}, {0, 0, -1, 0},
            {0, 0, 1, 4}, {0, 0, 1, -1}, {0, 0, 1, 3}};
        for (int[] b : bad) {
            due.is("move" + java.util.Arrays.toString(b), mill.move(b[0], b[1], b[2], b[3]), FormMill.BAD);
        }
        due.is("count(4)", mill.count(4), 0);
        for (int i = 0; i < 40; i++) {
            due.is("move()", mill.move(i % 2, 0, i % 3 == 0 ? 0 : 1, 0), i);
        }
        due.is("count(4)", mill.count(4), 40);
        due.is("move 41", mill.move(0, 0, 1, 0), FormMill.FULL);
        due.is("move 41, BAD", mill.move(0, 2, 1, 0), FormMill.BAD);
    }

    private static void answer(FormMill mill, int draft, int part, int sort, long... items) {
        due.is("kindOf(" + draft + ", " + part + ")", mill.kindOf(draft, part), sort);
        due.is("item(" + draft + ", " + part + ", -1)", mill.item(draft, part, -1), items.length);
        for (int i = 0; i < items.length; i++) {
            due.is("item(" + draft + ", " + part + ", " + i + ")", mill.item(draft, part, i), items[i]);
        }
    }

    private static void migrate() {
        due.promise(33, "migrate");
        FormMill mill = office();
        due.is("migrate(1, 1)", mill.migrate(1, 1), FormMill.BAD);
        due.is("migrate(-1, 1)", mill.migrate(-1, 1), FormMill.BAD);
        due.is("migrate(0, 2)", mill.migrate(0, 2), FormMill.BAD);
        due.is("migrate(0, -1)", mill.migrate(0, -1), FormMill.BAD);
        due.is("migrate(0, 1): no moves", mill.migrate(0, 1), 1);
        due.is("kindOf(1, 0)", mill.kindOf(1, 0), NONE);
        for (int p = 0; p < 3; p++) {
            mill.move(0, p == 2 ? 3 : p, 1, p);
        }
        long[][] items = {{1, 0}, {-5, 6}, {Long.MIN_VALUE}, {65, 66, 67}};
        for (int sort = 0; sort <= 3; sort++) {
            Due.give(mill, 0, 0, sort, items[sort]);
            int made = mill.migrate(0, 1);
            due.is("migrate(0, 1)", made, sort + 2);
            answer(mill, made, 0, sort, items[sort]);
            due.is("cameOver(0)", mill.cameOver(0), items[sort].length);
        }
        Due.rows(mill, new int[] {7, 8}, null, new int[0]);
        mill.give(0, 0);
        mill.desk(7, 2);
        mill.give(0, 1);
        Due.seats(mill, 6, 1, -1, 3);
        mill.give(0, 3);
        int made = mill.migrate(0, 1);
        answer(mill, made, 0, 4, 2, NONE, 0);
        due.is("cellOf()", mill.cellOf(made, 0, 0, 1), 8);
        answer(mill, made, 1, 7, 2);
        answer(mill, made, 2, 6, 1, NONE, 3);
        due.is("cameOver(0): rows", mill.cameOver(0), 3);
        due.is("cameOver(1): one", mill.cameOver(1), 1);
        due.is("cameOver(2)", mill.cameOver(2), 3);
        due.is("the old one stays", mill.kindOf(0, 0), 4);
        due.is("migrate() to a form without moves there", mill.migrate(made, 1), made + 1);
        due.is("kindOf()", mill.kindOf(made + 1, 0), NONE);
        due.is("givings stay", mill.count(8), 7);
        due.is("no failures", mill.count(7), 0);
        due.is("submit()", mill.submit(1, 0), 1);
        due.is("migrate() of a filed one", mill.migrate(1, 0), made + 2);
        due.is("the new one is not", mill.receipt(made + 2), NONE);
    }

    private static void stops() {
        due.promise(33, "migrate: entries and signeds");
        FormMill mill = office();
        mill.move(0, 0, 1, 0);
        mill.move(0, 1, 1, 1);
        mill.move(0, 3, 1, 2);
        Due.seats(mill, 5, 1, -1, 3);
        mill.give(0, 0);
        Due.seats(mill, 6, 3, -1, 1);
        mill.give(0, 1);
        Due.seats(mill, 5, 0, 1, -1);
        mill.give(0, 3);
        due.is("migrate(0, 1)", mill.migrate(0, 1), 1);
        answer(mill, 1, 0, 6, 1, NONE, 3);
        answer(mill, 1, 1, 5, 3, NONE, 1);
        answer(mill, 1, 2, 5, 0, 1, NONE);
        due.is("no failures", mill.count(7), 0);
        due.is("cameOver(0)", mill.cameOver(0), 3);
        Due.seats(mill, 5, 1, -1, 2, 3, 0);
        mill.give(0, 0);
        Due.seats(mill, 5, 0, 1);
        mill.give(0, 1);
        due.is("migrate(0, 1): one that stops", mill.migrate(0, 1), 2);
        answer(mill, 2, 0, 6, 1, NONE, NONE, NONE, NONE);
        answer(mill, 2, 1, 5, 0, 1);
        due.is("that is a failure, one", mill.count(7), 1);
        due.is("cameOver(0)", mill.cameOver(0), 2);
        due.is("cameOver(1): other moves go on", mill.cameOver(1), 2);
        due.is("cameOver(2)", mill.cameOver(2), 3);
        Due.seats(mill, 5, 0);
        mill.give(0, 0);
        due.is("migrate(0, 1): it stops at once", mill.migrate(0, 1), 3);
        answer(mill, 3, 0, 6, NONE);
        due.is("cameOver(0)", mill.cameOver(0), 0);
        Due.seats(mill, 6, 1);
        mill.give(0, 0);
        mill.desk(5, 0);
        mill.give(0, 3);
        due.is("migrate(0, 1): signeds to a signed, an empty one", mill.migrate(0, 1), 4);
        answer(mill, 4, 0, 6, 1);
        answer(mill, 4, 2, 5);
        due.is("cameOver(2)", mill.cameOver(2), 0);
        due.is("count(7)", mill.count(7), 2);
        mill.desk(7, 0);
        mill.give(0, 0);
        Due.seats(mill, 5, -1, -1);
        mill.give(0, 3);
        mill.move(0, 3, 1, 0);
        due.is("migrate(0, 1): one to a signed, then NOTHINGs", mill.migrate(0, 1), 5);
        answer(mill, 5, 0, 6, NONE, NONE);
        due.is("cameOver(0)", mill.cameOver(0), 1);
        due.is("cameOver(3)", mill.cameOver(3), 2);
        due.is("count(7)", mill.count(7), 2);
    }

    private static void order() {
        due.promise(33, "migrate: moves in order");
        FormMill mill = office();
        mill.move(0, 0, 1, 2);
        mill.move(1, 0, 1, 2);
        mill.move(0, 1, 1, 2);
        mill.move(0, 0, 0, 3);
        Due.give(mill, 0, 0, 1, 5);
        Due.give(mill, 0, 1, 2, 6, 7);
        due.is("migrate(0, 1)", mill.migrate(0, 1), 1);
        answer(mill, 1, 2, 2, 6, 7);
        mill.give(0, 1);
        due.is("migrate(0, 1): NOTHING comes, too", mill.migrate(0, 1), 2);
        due.is("kindOf(2, 2)", mill.kindOf(2, 2), NONE);
        due.is("cameOver(0)", mill.cameOver(0), 1);
        due.is("cameOver(2)", mill.cameOver(2), 0);
        due.is("migrate(0, 0): to the same form", mill.migrate(0, 0), 3);
        answer(mill, 3, 3, 1, 5);
        due.is("kindOf(3, 0)", mill.kindOf(3, 0), NONE);
        // What comes over is the new draft's own.
        Due.give(mill, 3, 3, 0, 1);
        due.is("item(0, 0, 0)", mill.item(0, 0, 0), 5);
        due.is("takeBack(3)", mill.takeBack(3), 3);
        answer(mill, 3, 3, 1, 5);
    }

    private static void cameOver() {
        due.promise(34, "cameOver");
        FormMill mill = office();
        due.is("cameOver(0)", mill.cameOver(0), FormMill.BAD);
        mill.move(0, 0, 1, 0);
        mill.move(0, 1, 0, 0);
        due.is("cameOver(-1)", mill.cameOver(-1), FormMill.BAD);
        due.is("cameOver(2)", mill.cameOver(2), FormMill.BAD);
        due.is("cameOver(0): no migrate() yet", mill.cameOver(0), NONE);
        Due.give(mill, 0, 0, 1, 5, 6);
        mill.migrate(0, 1);
        due.is("cameOver(0)", mill.cameOver(0), 2);
        due.is("cameOver(1): not asked for", mill.cameOver(1), NONE);
        mill.migrate(0, 5);
        due.is("cameOver(0): refusals leave it", mill.cameOver(0), 2);
        mill.move(0, 3, 1, 1);
        due.is("cameOver(2): it came later", mill.cameOver(2), NONE);
        mill.migrate(0, 0);
        due.is("cameOver(0)", mill.cameOver(0), NONE);
        due.is("cameOver(1): NOTHING", mill.cameOver(1), 0);
        due.is("cameOver(2)", mill.cameOver(2), NONE);
    }

    private static void full() {
        due.promise(33, "migrate: FULL");
        FormMill mill = office();
        mill.move(0, 0, 1, 0);
        Due.give(mill, 0, 0, 1, 5);
        for (int i = 1; i < 30; i++) {
            due.is("migrate(0, 1)", mill.migrate(0, 1), i);
        }
        mill.give(0, 0);
        due.is("migrate(0, 1)", mill.migrate(0, 1), FormMill.FULL);
        due.is("migrate(0, 2)", mill.migrate(0, 2), FormMill.BAD);
        due.is("cameOver(0)", mill.cameOver(0), 1);
        FormMill failing = Failing.upTo(9999);
        due.is("migrate(0, 1)", failing.migrate(0, 1), 2);
        failing.figure(0, 0);
        due.is("migrate(0, 1): 10000 failures", failing.migrate(0, 1), FormMill.FULL);
        due.is("migrate(0, 9)", failing.migrate(0, 9), FormMill.BAD);
        due.is("move(0, 0, 1, 0)", failing.move(0, 0, 1, 0), 0);
        due.is("count(2)", failing.count(2), 3);
        FormMill stopping = Failing.upTo(9999);
        Due.form(stopping, "form; signed s 8;");
        stopping.move(0, 0, 2, 0);
        stopping.entry(1, 1, NONE);
        Due.seats(stopping, 5, 1);
        stopping.give(0, 0);
        due.is("migrate(0, 2): the 10000th", stopping.migrate(0, 2), 2);
        due.is("count(7)", stopping.count(7), 10000);
        due.is("migrate(0, 2)", stopping.migrate(0, 2), FormMill.FULL);
        due.is("cameOver(0)", stopping.cameOver(0), 0);
    }
}
