import java.util.Random;

/** Random runs of calls, the same in each round, put to the class and to the model: all promises at once. */
public final class ModelTest {
    private static final int RUNS = 5000, CALLS = 512;
    private static final int[] SORT_OF_KIND = {0, 1, 2, 1, 1, 0, 3, 4, 5, 6, 7};
    private static final String[] SORTS = {"truths", "wholes", "moneys", "letters", "rows", "entries", "signeds", "one"};

    private final Random random;
    private final FormMill mill = new FormMill();
    private final Model model = new Model();
    private final StringBuilder log = new StringBuilder();
    private int calls;
    private boolean isWrong;

    private ModelTest(long seed) {
        random = new Random(seed);
    }

    public static void main(String[] args) {
        int wrong = 0;
        long calls = 0;
        for (int run = 0; run < RUNS && wrong < 5; run++) {
            ModelTest test = new ModelTest(run);
            test.run(run);
            calls += test.calls;
            if (test.isWrong) {
                wrong++;
                System.out.println("run " + run + ":\n" + test.log);
            }
        }
        System.out.println("ModelTest: " + calls + " answers, " + wrong + " runs wrong");
        if (wrong > 0) {
            System.exit(1);
        }
    }

    private void run(int run) {
        int mode = run % 5;
        if (mode == 4) {
            nearlyFull(run / 5 % 6);
        }
        while (calls < CALLS && !isWrong) {
            if (mode == 0 && calls < 200) {
                text();
            } else {
                call(random.nextInt(100), mode);
            }
        }
    }

    /** An office that is full in one way, or has room for a few more. */
    private void nearlyFull(int way) {
        feed("form; yes p0; group p1 { whole p2 0 3; } list p3 2; figure f0 = 1 / p2;");
        same("form()", mill.form(), model.form());
        same("draft(0)", mill.draft(0), model.draft(0));
        int room = below(5);
        switch (way) {
            case 0:
                for (int n = 100 - room; n > 0; n--) {
                    same("entry()", mill.entry(n, n, n % 2), model.entry(n, n, n % 2));
                }
                break;
            case 1:
                for (int n = 29 - room; n > 0; n--) {
                    same("draft(0)", mill.draft(0), model.draft(0));
                }
                break;
            case 2:
                for (int n = 40 - room; n > 0; n--) {
                    same("move()", mill.move(0, n % 2 * 2, 0, 3), model.move(0, n % 2 * 2, 0, 3));
                }
                break;
            case 3:
                for (int n = 400 - room; n > 0; n--) {
                    same("give()", mill.give(0, n % 2 * 2), model.give(0, n % 2 * 2));
                }
                break;
            case 4:
                for (int n = 9 - room % 3; n > 0; n--) {
                    feed("form; must yes p0; check " + n + " p0;");
                    same("form()", mill.form(), model.form());
                }
                break;
            default:
                for (int n = 175 - room; n > 0; n--) {
                    same("feed()", mill.feed(8, 0x2020202020202020L), model.feed(8, 0x2020202020202020L));
                }
                break;
        }
    }

    private int below(int n) {
        return random.nextInt(n);
    }

    private boolean chance(int percent) {
        return below(100) < percent;
    }

    private void same(String call, long got, long want) {
        calls++;
        log.append(call).append(" = ").append(got).append('\n');
        if (got != want && calls <= CALLS) {
            isWrong = true;
            log.append("   due is ").append(want).append('\n');
        }
    }

    /** A number of something there is, or now and then one that is not. */
    private int some(int what) {
        int n = model.count(what);
        return chance(3) ? below(3) == 0 ? -1 : n : n == 0 ? 0 : below(n);
    }

    private int partOf(int form) {
        int n = Math.max(0, model.about(form, 0));
        return chance(3) ? below(3) - 1 + n : n == 0 ? 0 : below(n);
    }

    private void text() {
        String text = new Texts(random).form();
        if (chance(25)) {
            text = damaged(text);
        }
        feed(text);
        int got = mill.form();
        same("form() of <" + text + ">", got, model.form());
        if (got >= 0) {
            for (int what = -1; what < 7 && chance(80); what++) {
                same("about", mill.about(got, what), model.about(got, what));
            }
            int part = partOf(got);
            int what = below(5) - 1;
            same("part", mill.part(got, part, what), model.part(got, part, what));
        }
    }

    private void feed(String text) {
        for (int i = 0; i < text.length(); i += 8) {
            int n = Math.min(8, text.length() - i);
            long bytes = random.nextLong();
            for (int k = n - 1; k >= 0; k--) {
                bytes = bytes << 8 | text.charAt(i + k) & 255;
            }
            same("feed(" + n + ", " + bytes + ")", mill.feed(n, bytes), model.feed(n, bytes));
        }
    }

    private String damaged(String text) {
        String[] tokens = {";", "{", "}", "(", ")", "[", "]", ",", "=", "<", ">", "+", "-", "*", "/", "%", "form", "until", "must", "when",
            "group", "yes", "whole", "many", "figure", "check", "or", "and", "not", "len", "has", "is", "total", "try", "else", "one",
            "a", "p0", "f0", "1", "0", "9", "1000000", "abcdefghi", "?", "\t", ""};
        StringBuilder b = new StringBuilder(text);
        for (int n = 1 + below(2); n > 0 && b.length() > 0; n--) {
            int at = below(b.length());
            switch (below(4)) {
                case 0: b.deleteCharAt(at); break;
                case 1: b.insert(at, " " + tokens[below(tokens.length)] + " "); break;
                case 2: b.setLength(at); break;
                default: b.setCharAt(at, ";{}()[],=<>+-*/% ab09".charAt(below(21))); break;
            }
        }
        return b.toString();
    }

    private void call(int which, int mode) {
        if (model.count(0) == 0 || which < (mode == 0 ? 5 : 1)) {
            text();
        } else if (which < 5) {
            int label = chance(10) ? below(1200) - 100 : below(1000);
            long amount = chance(10) ? random.nextLong() : below(100) - 20;
            int signer = chance(40) ? -9 : below(chance(10) ? 14 : 10) - (chance(10) ? 2 : 0);
            same("entry(" + label + ", " + amount + ", " + signer + ")", mill.entry(label, amount, signer), model.entry(label, amount, signer));
        } else if (which < 40) {
            giveSome();
        } else if (which < 48) {
            desk();
        } else if (which < 58) {
            draft();
        } else if (which < 80) {
            work(mode);
        } else if (which < 88) {
            moves();
        } else if (which < 92) {
            search(mode);
        } else {
            disk();
        }
    }

    /** An object for a part of a draft, more often than not of the sort that is wanted. */
    private void giveSome() {
        int draft = some(2);
        int form = model.formOf(draft);
        int part = partOf(form);
        int kind = model.part(form, part, 0);
        int sort = kind >= 0 && kind <= 10 && chance(85) ? SORT_OF_KIND[kind] : below(8);
        object(chance(10) && sort == 5 ? 6 : sort, kind);
        same("give(" + draft + ", " + part + ")", mill.give(draft, part), model.give(draft, part));
    }

    private void object(int sort, int kind) {
        int n = sort == 7 ? some(1) : kind <= 4 && chance(85) ? 1 : chance(5) ? below(16) - 2 : below(sort == 4 ? 5 : 6);
        same("desk(" + sort + ", " + n + ")", mill.desk(sort, n), model.desk(sort, n));
        for (int i = 0; i < n && i < 12; i++) {
            if (sort <= 3) {
                write(i, sort);
            } else if (sort == 4 && chance(92)) {
                int cells = chance(90) ? 2 : below(8) - 1;
                same("line(" + i + ", " + cells + ")", mill.line(i, cells), model.line(i, cells));
                int v = below(20) - 5;
                same("cell(" + i + ", 1, " + v + ")", mill.cell(i, 1, v), model.cell(i, 1, v));
            } else if (sort >= 5 && sort <= 6 && chance(90)) {
                int entry = some(1);
                same("seat(" + i + ", " + entry + ")", mill.seat(i, entry), model.seat(i, entry));
            }
        }
    }

    private void write(int i, int sort) {
        long v = chance(3) ? random.nextLong() : sort == 3 ? 60 + below(68) : sort == 0 ? below(2) : below(9);
        same("write(" + i + ", " + v + ")", mill.write(i, v), model.write(i, v));
    }

    private void desk() {
        int i = below(8) - 1;
        int j = below(5) - 1;
        long v = chance(50) ? below(5) : random.nextLong();
        switch (below(7)) {
            case 0: object(below(8), 5); break;
            case 1: same("clear()", mill.clear(), model.clear()); break;
            case 2: same("write(" + i + ", " + v + ")", mill.write(i, v), model.write(i, v)); break;
            case 3: same("line(" + i + ", " + (2 * j) + ")", mill.line(i, 2 * j), model.line(i, 2 * j)); break;
            case 4: same("cell(" + i + ", " + j + ", " + v + ")", mill.cell(i, j, (int) v), model.cell(i, j, (int) v)); break;
            case 5:
                int entry = chance(10) ? below(5) - 3 : some(1);
                same("seat(" + i + ", " + entry + ")", mill.seat(i, entry), model.seat(i, entry));
                break;
            default: same("sort()", mill.sort(), model.sort()); break;
        }
    }

    private void draft() {
        int form = some(0);
        int draft = some(2);
        int part = partOf(model.formOf(draft));
        int i = below(6) - 2;
        int j = below(4) - 1;
        switch (below(9)) {
            case 0: case 1:
                if (model.count(2) < 12 || chance(10)) {
                    same("draft(" + form + ")", mill.draft(form), model.draft(form));
                }
                break;
            case 2: same("takeBack(" + draft + ")", mill.takeBack(draft), model.takeBack(draft)); break;
            case 3: same("kindOf(" + draft + ", " + part + ")", mill.kindOf(draft, part), model.kindOf(draft, part)); break;
            case 4: same("item(" + draft + ", " + part + ", " + i + ")", mill.item(draft, part, i), model.item(draft, part, i)); break;
            case 5: same("cellOf(" + draft + ", " + part + ", " + i + ")", mill.cellOf(draft, part, i, j), model.cellOf(draft, part, i, j)); break;
            case 6: same("digest(" + draft + ")", mill.digest(draft), model.digest(draft)); break;
            default: same("count", mill.count(i + 3), model.count(i + 3)); break;
        }
    }

    private void work(int mode) {
        int draft = some(2);
        int form = model.formOf(draft);
        int i = below(4) - (chance(5) ? 1 : 0);
        int what = below(6) - (chance(5) ? 1 : 0);
        switch (below(10)) {
            case 0: case 1: case 2:
                same("check(" + draft + ")", mill.check(draft), model.check(draft));
                findings();
                break;
            case 3: same("finding(" + i + ", " + what + ")", mill.finding(i, what), model.finding(i, what)); break;
            case 4:
                int part = partOf(form);
                same("shown(" + draft + ", " + part + ")", mill.shown(draft, part), model.shown(draft, part));
                told();
                break;
            case 5: case 6:
                int figure = below(1 + Math.max(0, model.about(form, 1)));
                same("figure(" + draft + ", " + figure + ")", mill.figure(draft, figure), model.figure(draft, figure));
                same("value()", mill.value(), model.value());
                told();
                break;
            case 7:
                int day = chance(10) ? below(10020) - 10 : below(60);
                if (mode != 3 || chance(30)) {
                    same("submit(" + draft + ", " + day + ")", mill.submit(draft, day), model.submit(draft, day));
                    findings();
                }
                break;
            case 8:
                int who = below(5) - 1;
                same("sign(" + draft + ", " + who + ")", mill.sign(draft, who), model.sign(draft, who));
                int other = some(2);
                same("earlier(" + draft + ", " + other + ")", mill.earlier(draft, other), model.earlier(draft, other));
                same("receipt(" + draft + ")", mill.receipt(draft), model.receipt(draft));
                break;
            default:
                int asked = partOf(form);
                for (int k = -1; k < 4; k++) {
                    same("stats(" + form + ", " + asked + ", " + k + ")", mill.stats(form, asked, k), model.stats(form, asked, k));
                }
                break;
        }
        same("count(7)", mill.count(7), model.count(7));
    }

    private void findings() {
        int i = below(3);
        for (int what = 0; what < 5; what++) {
            same("finding(" + i + ", " + what + ")", mill.finding(i, what), model.finding(i, what));
        }
        told();
    }

    private void told() {
        for (int what = 0; what < 4; what++) {
            same("told(" + what + ")", mill.told(what), model.told(what));
        }
    }

    private void moves() {
        int form = some(0);
        int to = some(0);
        if (chance(60)) {
            int part = partOf(form);
            int toPart = partOf(to);
            same("move(" + form + ", " + part + ", " + to + ", " + toPart + ")", mill.move(form, part, to, toPart), model.move(form, part, to, toPart));
        } else if (model.count(2) < 26 || chance(20)) {
            int draft = some(2);
            int got = mill.migrate(draft, to);
            same("migrate(" + draft + ", " + to + ")", got, model.migrate(draft, to));
            int m = some(4);
            same("cameOver(" + m + ")", mill.cameOver(m), model.cameOver(m));
            if (got >= 0) {
                same("digest(" + got + ")", mill.digest(got), model.digest(got));
            }
        }
        int m = some(4);
        same("cameOver(" + m + ")", mill.cameOver(m), model.cameOver(m));
    }

    private int searched;

    private void search(int mode) {
        int form = chance(mode == 3 ? 97 : 70) ? searched : some(0);
        searched = form;
        int work = mode == 3 ? 100 : chance(5) ? below(110) - 3 : 1 + below(30);
        for (int round = mode == 3 ? 6 : 1; round > 0 && !isWrong; round--) {
            same("shortest(" + form + ", " + work + ")", mill.shortest(form, work), model.shortest(form, work));
        }
        int m = below(11) - 1;
        same("proof(" + m + ")", mill.proof(m), model.proof(m));
        if (chance(30)) {
            int got = mill.keep();
            same("keep()", got, model.keep());
            if (got >= 0) {
                same("digest(" + got + ")", mill.digest(got), model.digest(got));
            }
        }
    }

    private void disk() {
        int draft = some(2);
        int form = some(0);
        int length = model.count(6);
        int i = length == 0 || chance(5) ? below(30) - 3 : below(length);
        switch (below(6)) {
            case 0: case 1: same("export(" + draft + ")", mill.export(draft), model.export(draft)); break;
            case 2: same("disk(" + i + ")", mill.disk(i), model.disk(i)); break;
            case 3:
                int bits = chance(5) ? below(600) - 50 : 1 << below(8);
                same("alter(" + i + ", " + bits + ")", mill.alter(i, bits), model.alter(i, bits));
                mendSum();
                break;
            case 4:
                if (chance(30)) {
                    same("cutDisk(" + i + ")", mill.cutDisk(i), model.cutDisk(i));
                }
                break;
            default:
                if (model.count(2) < 28 || chance(20)) {
                    int got = mill.take(form);
                    same("take(" + form + ")", got, model.take(form));
                    if (got >= 0) {
                        same("digest(" + got + ")", mill.digest(got), model.digest(got));
                    }
                }
                break;
        }
    }

    /** Makes the sum right again where the disk is one row, so that what else is wrong is come to. */
    private void mendSum() {
        int length = model.count(6);
        if (length < 5 || length > 30 || chance(30)) {
            return;
        }
        int sum = 0;
        for (int i = 0; i < length - 2; i++) {
            sum = sum * 31 + model.disk(i) & 0xFFFF;
        }
        int high = model.disk(length - 2) ^ sum >> 8;
        int low = model.disk(length - 1) ^ sum & 255;
        same("alter", mill.alter(length - 2, high), model.alter(length - 2, high));
        same("alter", mill.alter(length - 1, low), model.alter(length - 1, low));
    }

    /** Texts of forms, most of which stand. */
    private static final class Texts {
        private final Random random;
        private final int parts;
        private final int figures;
        private int told;

        private Texts(Random random) {
            this.random = random;
            this.parts = random.nextInt(10) == 0 ? 20 : random.nextInt(9);
            this.figures = random.nextInt(20) == 0 ? 12 : random.nextInt(4);
        }

        private int below(int n) {
            return random.nextInt(n);
        }

        private String form() {
            StringBuilder b = new StringBuilder("form;");
            if (below(3) == 0) {
                b.append(" until ").append(below(60)).append(";");
            }
            if (below(2) == 0) {
                b.append("signers ").append(below(5)).append(";");
            }
            int open = 0;
            for (int p = 0; p < parts; p++) {
                if (below(6) == 0) {
                    b.append(" group p").append(p).append(when()).append(" {");
                    open++;
                } else {
                    b.append(below(3) == 0 ? " must" : "").append(part(p)).append(when()).append(";");
                }
                while (open > 0 && below(3) == 0) {
                    b.append("}");
                    open--;
                }
            }
            b.append("}".repeat(open));
            for (int f = 0; f < figures; f++) {
                b.append("\nfigure f").append(f).append(" = ").append(exp(3)).append(";");
                told++;
                if (below(2) == 0) {
                    b.append(" check ").append(below(100)).append(" ").append(exp(2)).append(";");
                }
            }
            for (int c = below(3); c > 0; c--) {
                b.append(" check ").append(below(100)).append(" ").append(exp(2)).append(";");
            }
            return b.toString();
        }

        private String when() {
            return below(4) == 0 ? " when " + exp(1) : "";
        }

        private String part(int p) {
            int least = below(5);
            int most = least + below(5);
            int n = 1 + below(8);
            int few = below(n + 1);
            switch (below(13)) {
                case 0: return " yes p" + p;
                case 1: case 2: return " whole p" + p + " " + least + " " + most;
                case 3: return " money p" + p + " " + most;
                case 4: return " date p" + p + " " + least + " " + most;
                case 5: return " choice p" + p + " " + (2 + below(7));
                case 6: return " many p" + p + " " + n + " " + few + " " + (few + below(n - few + 1));
                case 7: return " text p" + p + " " + (1 + below(6));
                case 8: case 9: return " table p" + p + " " + (1 + below(3)) + " " + (1 + below(6));
                case 10: return " list p" + p + " " + (1 + below(6));
                case 11: return " signed p" + p + " " + (1 + below(6));
                default: return " entry p" + p;
            }
        }

        private String name() {
            return "p" + below(Math.max(1, parts));
        }

        private String exp(int depth) {
            if (depth <= 0) {
                return base(0);
            }
            String[] signs = {" + ", " - ", " * ", " / ", " % ", " = ", " < ", " > ", " or ", " and "};
            if (below(3) == 0) {
                return base(depth);
            }
            String sign = signs[below(signs.length)];
            return "(" + exp(depth - 1) + ")" + sign + base(depth - 1) + (below(4) == 0 ? " + " + base(0) : "");
        }

        private String base(int depth) {
            switch (below(depth > 0 ? 18 : 10)) {
                case 0: case 1: return "" + below(6);
                case 2: case 3: case 4: return told > 0 && below(2) == 0 ? "f" + below(told) : name();
                case 5: return "has " + name();
                case 6: return "len " + name();
                case 7: return "is " + SORTS[below(8)] + " " + name();
                case 8: return "total " + name();
                case 9: return name() + "[" + below(3) + "]";
                case 10: return name() + "[" + exp(depth - 1) + "]";
                case 11: return name() + "[" + exp(depth - 1) + ", " + exp(0) + "]";
                case 12: return "total " + name() + "[" + exp(depth - 1) + "]";
                case 13: case 14: return "try (" + exp(depth - 1) + ") else " + base(depth - 1);
                case 15: return "- " + base(depth - 1);
                case 16: return "not " + base(depth - 1);
                default: return "(" + exp(depth - 1) + ")";
            }
        }
    }
}
