/** Promises 27 to 31: filing, signing, what is filed in sum. */
public final class FilingTest {
    private static final Due due = new Due("FilingTest");

    public static void main(String[] args) {
        submit();
        days();
        receipt();
        earlier();
        sign();
        stats();
        statsByKinds();
        full();
        due.end();
    }

    private static void submit() {
        due.promise(27, "submit");
        FormMill mill = Due.with("form; must yes a; must text b 2; check 3 1 / 0;");
        Due.form(mill, "form; whole a 0 9;");
        mill.draft(0);
        mill.draft(1);
        due.is("submit(2, 0)", mill.submit(2, 0), FormMill.BAD);
        due.is("submit(-1, 0)", mill.submit(-1, 0), FormMill.BAD);
        due.is("submit(1, -1)", mill.submit(1, -1), FormMill.BAD);
        due.is("submit(1, 10000)", mill.submit(1, 10000), FormMill.BAD);
        due.is("submit(0, 0)", mill.submit(0, 0), -13);
        due.is("count(3)", mill.count(3), 0);
        due.is("its failures count", mill.count(7), 1);
        Due.give(mill, 0, 0, 0, 1);
        due.is("submit(0, 0)", mill.submit(0, 0), -12);
        Due.give(mill, 1, 0, 1, 10);
        due.is("submit(1, 9999)", mill.submit(1, 9999), -11);
        Due.give(mill, 1, 0, 1, 9);
        due.is("submit(1, 9999)", mill.submit(1, 9999), 1);
        due.is("count(3)", mill.count(3), 1);
        due.is("submit(1, 0)", mill.submit(1, 0), FormMill.STATE);
        due.is("submit(1, 10000)", mill.submit(1, 10000), FormMill.BAD);
        mill.draft(1);
        due.is("submit(2, 0)", mill.submit(2, 0), 2);
        due.is("check(2) of a filed one", mill.check(2), 0);
        due.is("figures, too", mill.figure(2, 0), FormMill.BAD);
    }

    private static void days() {
        due.promise(27, "submit: until");
        FormMill mill = Due.with("form; until 5; must yes a;");
        Due.form(mill, "form; until 0;");
        Due.form(mill, "form;");
        for (int form = 0; form < 3; form++) {
            mill.draft(form);
        }
        due.is("submit(0, 6)", mill.submit(0, 6), FormMill.LATE);
        due.is("submit(0, 5)", mill.submit(0, 5), -11);
        due.is("submit(1, 1)", mill.submit(1, 1), FormMill.LATE);
        due.is("submit(1, 0)", mill.submit(1, 0), 1);
        due.is("submit(1, 1): STATE ahead of LATE", mill.submit(1, 1), FormMill.STATE);
        due.is("submit(2, 9999)", mill.submit(2, 9999), 2);
        Due.give(mill, 0, 0, 0, 1);
        due.is("submit(0, 6)", mill.submit(0, 6), FormMill.LATE);
        due.is("count(3)", mill.count(3), 2);
        due.is("submit(0, 4)", mill.submit(0, 4), 3);
    }

    private static void receipt() {
        due.promise(28, "receipt");
        FormMill mill = Due.with("form;");
        due.is("receipt(0)", mill.receipt(0), FormMill.BAD);
        for (int i = 0; i < 4; i++) {
            mill.draft(0);
            due.is("receipt(" + i + ")", mill.receipt(i), FormMill.NONE);
        }
        due.is("receipt(-1)", mill.receipt(-1), FormMill.BAD);
        due.is("receipt(4)", mill.receipt(4), FormMill.BAD);
        int[] order = {2, 0, 3};
        for (int i = 0; i < order.length; i++) {
            due.is("submit()", mill.submit(order[i], i), i + 1);
            due.is("receipt()", mill.receipt(order[i]), i + 1);
        }
        due.is("receipt(1)", mill.receipt(1), FormMill.NONE);
        due.is("receipt(2)", mill.receipt(2), 1);
    }

    private static void earlier() {
        due.promise(29, "earlier");
        FormMill mill = Due.with("form;");
        for (int i = 0; i < 3; i++) {
            mill.draft(0);
        }
        mill.submit(1, 50);
        mill.submit(0, 40);
        due.is("earlier(0, 1)", mill.earlier(0, 1), 1);
        due.is("earlier(1, 0)", mill.earlier(1, 0), 0);
        due.is("earlier(1, 1)", mill.earlier(1, 1), 0);
        due.is("earlier(0, 2)", mill.earlier(0, 2), FormMill.STATE);
        due.is("earlier(2, 0)", mill.earlier(2, 0), FormMill.STATE);
        due.is("earlier(2, 2)", mill.earlier(2, 2), FormMill.STATE);
        due.is("earlier(0, 3)", mill.earlier(0, 3), FormMill.BAD);
        due.is("earlier(3, 0)", mill.earlier(3, 0), FormMill.BAD);
        due.is("earlier(-1, 0)", mill.earlier(-1, 0), FormMill.BAD);
        due.is("earlier(2, 3): BAD first", mill.earlier(2, 3), FormMill.BAD);
    }

    private static void sign() {
        due.promise(30, "sign");
        FormMill mill = Due.with("form; signers 3;");
        Due.form(mill, "form;");
        mill.draft(0);
        mill.draft(0);
        mill.draft(1);
        due.is("sign(0, 0): not filed", mill.sign(0, 0), FormMill.STATE);
        due.is("sign(0, 3): BAD first", mill.sign(0, 3), FormMill.BAD);
        mill.submit(0, 0);
        mill.submit(1, 0);
        mill.submit(2, 0);
        due.is("sign(3, 0)", mill.sign(3, 0), FormMill.BAD);
        due.is("sign(-1, 0)", mill.sign(-1, 0), FormMill.BAD);
        due.is("sign(0, -1)", mill.sign(0, -1), FormMill.BAD);
        due.is("sign(2, 0): no signers", mill.sign(2, 0), FormMill.BAD);
        due.is("sign(0, 1)", mill.sign(0, 1), FormMill.STATE);
        due.is("sign(0, 0)", mill.sign(0, 0), 2);
        due.is("sign(0, 0)", mill.sign(0, 0), FormMill.STATE);
        due.is("sign(0, 2)", mill.sign(0, 2), FormMill.STATE);
        due.is("sign(0, 1)", mill.sign(0, 1), 1);
        due.is("sign(1, 0): each draft its own", mill.sign(1, 0), 2);
        due.is("sign(0, 2)", mill.sign(0, 2), 0);
        for (int who = 0; who < 3; who++) {
            due.is("sign(0, " + who + "): all have", mill.sign(0, who), FormMill.STATE);
        }
    }

    private static void stats(FormMill mill, int form, int part, long have, long sum, long fail) {
        due.is("stats(" + form + ", " + part + ", 0)", mill.stats(form, part, 0), have);
        due.is("stats(" + form + ", " + part + ", 1)", mill.stats(form, part, 1), sum);
        due.is("stats(" + form + ", " + part + ", 2)", mill.stats(form, part, 2), fail);
    }

    private static void stats() {
        due.promise(31, "stats");
        FormMill mill = Due.with("form; whole a 0 9; group g when 0 { whole b 0 9; money c 9; } text d 5;");
        Due.form(mill, "form; whole a 0 9;");
        int[][] bad = {{2, 0, 0}, {-1, 0, 0}, {0, 5, 0}, {0, -1, 0}, {0, 1, 0}, {0, 0, 3}, {0, 0, -1}, {1, 1, 0}};
        for (int[] b : bad) {
            due.is("stats" + java.util.Arrays.toString(b), mill.stats(b[0], b[1], b[2]), -100);
        }
        stats(mill, 0, 0, 0, 0, 0);
        for (int i = 0; i < 6; i++) {
            mill.draft(i == 5 ? 1 : 0);
        }
        Due.give(mill, 0, 0, 1, 3);
        Due.give(mill, 1, 0, 1, 5);
        Due.give(mill, 3, 0, 1, 9);
        Due.give(mill, 5, 0, 1, 8);
        // Parts that are not shown may hold anything in a filed draft.
        Due.give(mill, 0, 2, 1, -70);
        Due.give(mill, 1, 2, 0, 1);
        Due.give(mill, 2, 2, 1);
        Due.give(mill, 4, 2, 1, 20);
        Due.give(mill, 0, 3, 2, Long.MAX_VALUE);
        Due.give(mill, 1, 3, 2, 2);
        Due.give(mill, 0, 4, 3, 65, 65);
        Due.give(mill, 2, 4, 3, 65);
        for (int draft : new int[] {0, 1, 2, 4, 5}) {
            due.is("submit()", mill.submit(draft, 0) > 0 ? 1 : 0, 1);
        }
        stats(mill, 0, 0, 2, 8, 0);
        due.is("count(7)", mill.count(7), 0);
        due.is("stats(0, 2, 0)", mill.stats(0, 2, 0), 4);
        due.is("to have an answer is no failure", mill.count(7), 0);
        due.is("stats(0, 2, 1)", mill.stats(0, 2, 1), -50);
        due.is("its failures count", mill.count(7), 2);
        due.is("stats(0, 2, 2)", mill.stats(0, 2, 2), 2);
        due.is("its failures count", mill.count(7), 4);
        stats(mill, 0, 3, 2, Long.MIN_VALUE + 1, 0);
        stats(mill, 0, 4, 2, 3, 0);
        stats(mill, 1, 0, 1, 8, 0);
    }

    private static void statsByKinds() {
        due.promise(31, "stats: NAME by kinds");
        FormMill mill = Due.with("form; group z when 0 { yes a; many b 3 0 3; table c 1 6; list d 8; signed e 8; entry f; date g 0 1; choice h 2; }");
        mill.entry(1, 40, FormMill.NONE);
        mill.entry(1, 50, 1);
        mill.draft(0);
        Due.give(mill, 0, 1, 0, 1, 0);
        Due.give(mill, 0, 2, 0, 1, 0, 1, 1);
        Due.rows(mill, null, new int[4]);
        mill.give(0, 3);
        Due.seats(mill, 6, 1, -1);
        mill.give(0, 4);
        Due.seats(mill, 5, 1, 0, 0);
        mill.give(0, 5);
        mill.desk(7, 0);
        mill.give(0, 6);
        Due.give(mill, 0, 7, 1, 77);
        Due.give(mill, 0, 8, 1, -3);
        due.is("submit(0, 0)", mill.submit(0, 0), 1);
        long[] sums = {1, 3, 2, 2, 0, 40, 77, -3};
        for (int p = 1; p <= 8; p++) {
            stats(mill, 0, p, 1, sums[p - 1], p == 5 ? 1 : 0);
        }
    }

    private static void full() {
        FormMill mill = Failing.upTo(9999);
        due.promise(27, "the 10000th failure");
        due.is("submit(0, 0)", mill.submit(0, 0), 1);
        mill.figure(0, 0);
        due.is("count(7)", mill.count(7), 10000);
        due.is("submit(0, 0): FULL ahead of STATE", mill.submit(0, 0), FormMill.FULL);
        due.is("submit(1, 0)", mill.submit(1, 0), FormMill.FULL);
        due.is("submit(0, -1)", mill.submit(0, -1), FormMill.BAD);
        due.promise(31, "the 10000th failure");
        for (int what = 0; what < 3; what++) {
            due.is("stats(0, 0, " + what + ")", mill.stats(0, 0, what), -101);
        }
        due.is("stats(0, 0, 3)", mill.stats(0, 0, 3), -100);
        due.promise(28, "the 10000th failure");
        due.is("receipt(0)", mill.receipt(0), 1);
        due.is("earlier(0, 0)", mill.earlier(0, 0), 0);
    }
}
