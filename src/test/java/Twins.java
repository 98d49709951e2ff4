import java.util.ArrayList;
import java.util.List;
import java.util.function.Supplier;
import java.util.function.ToLongFunction;

/**
 * Two offices that are made alike. A call is put to one of them alone; then both are asked for all that can be asked for, and for
 * what only further calls bring to light. What a refused call has changed shows as two answers that differ.
 */
final class Twins {
    private final Due due;
    private final Supplier<FormMill> office;
    private final String what;

    Twins(Due due, String what, Supplier<FormMill> office) {
        this.due = due;
        this.what = what;
        this.office = office;
    }

    /** A call that answers as told and changes nothing. */
    void refuse(String call, ToLongFunction<FormMill> refused, long want) {
        compare(call, refused, want, 0);
    }

    /** A call that answers as told and changes nothing but that so many FAILURES more came. */
    void fail(String call, ToLongFunction<FormMill> failing, long want, int failures) {
        compare(call, failing, want, failures);
    }

    private void compare(String call, ToLongFunction<FormMill> put, long want, int failures) {
        FormMill one = office.get();
        FormMill other = office.get();
        due.is(what + ": " + call, put.applyAsLong(other), want);
        due.is(what + ": FAILURES that came by " + call, other.count(7) - one.count(7), failures);
        List<String> names = new ArrayList<>();
        List<Long> before = asked(one, names);
        List<Long> behind = asked(other, new ArrayList<>());
        for (int i = 0; i < before.size(); i++) {
            due.is(what + ": " + call + ", then " + names.get(i), behind.get(i), before.get(i));
        }
    }

    /** Some 200 calls, so that an office may have had 300 ahead of them. */
    private static List<Long> asked(FormMill mill, List<String> names) {
        Asker ask = new Asker(names);
        look(mill, ask);
        goOn(mill, ask);
        return ask.answers;
    }

    private static final class Asker {
        private final List<String> names;
        private final List<Long> answers = new ArrayList<>();

        private Asker(List<String> names) {
            this.names = names;
        }

        private long got(String call, long answer) {
            names.add(call);
            answers.add(answer);
            return answer;
        }
    }

    private static void look(FormMill mill, Asker ask) {
        for (int what : new int[] {0, 1, 2, 3, 4, 5, 6, 8}) {
            ask.got("count(" + what + ")", mill.count(what));
        }
        ask.got("sort()", mill.sort());
        ask.got("value()", mill.value());
        for (int k = 0; k < 4; k++) {
            ask.got("told(" + k + ")", mill.told(k));
        }
        for (int k = 0; k < 10; k++) {
            ask.got("finding(" + k / 5 + ", " + k % 5 + ")", mill.finding(k / 5, k % 5));
        }
        for (int k = 0; k < 6; k++) {
            ask.got("about(0, " + k + ")", mill.about(0, k));
        }
        for (int d = 0; d < Math.min(5, mill.count(2)); d++) {
            ask.got("digest(" + d + ")", mill.digest(d));
            ask.got("receipt(" + d + ")", mill.receipt(d));
        }
        for (int k = 0; k < 3; k++) {
            ask.got("cameOver(" + k + ")", mill.cameOver(k));
        }
        for (int k = 0; k <= 8; k++) {
            ask.got("proof(" + k + ")", mill.proof(k));
        }
        for (int k = 0; k < 12; k++) {
            ask.got("disk(" + k + ")", mill.disk(k));
        }
        ask.got("disk(last)", mill.disk(mill.count(6) - 1));
        for (int k = 0; k < 3; k++) {
            ask.got("stats(0, 0, " + k + ")", mill.stats(0, 0, k));
        }
    }

    private static void goOn(FormMill mill, Asker ask) {
        ask.got("sign(0, 0)", mill.sign(0, 0));
        ask.got("sign(0, 1)", mill.sign(0, 1));
        ask.got("earlier(0, 2)", mill.earlier(0, 2));
        ask.got("keep()", mill.keep());
        ask.got("shortest(2, 3)", mill.shortest(2, 3));
        for (int k = 0; k <= 4; k++) {
            ask.got("proof(" + k + ")", mill.proof(k));
        }
        long row = ask.got("cell(0, 0, 5)", mill.cell(0, 0, 5));
        ask.got("write(0, 5)", mill.write(0, 5));
        ask.got("seat(0, 0)", mill.seat(0, 0));
        ask.got("give(1, 0)", mill.give(1, 0));
        ask.got("digest(1)", mill.digest(1));
        for (int k = 0; k < 4; k++) {
            ask.got("takeBack(1)", mill.takeBack(1));
            ask.got("digest(1)", mill.digest(1));
        }
        ask.got("takeBack(3)", mill.takeBack(3));
        ask.got("take(0)", mill.take(0));
        ask.got("submit(3, 50)", mill.submit(3, 50));
        ask.got("migrate(1, 1)", mill.migrate(1, 1));
        ask.got("feed(1, ..)", mill.feed(1, row == 0 ? ';' : '{'));
        ask.got("form()", mill.form());
        ask.got("entry(1, 1, 1)", mill.entry(1, 1, 1));
        ask.got("draft(0)", mill.draft(0));
        ask.got("move(0, 0, 0, 0)", mill.move(0, 0, 0, 0));
        ask.got("check(0)", mill.check(0));
        ask.got("figure(1, 0)", mill.figure(1, 0));
        ask.got("value()", mill.value());
        ask.got("count(7) of what came behind", mill.count(7) >= 10000 ? 1 : 0);
    }
}
