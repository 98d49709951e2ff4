import java.util.ArrayList;
import java.util.Arrays;
import java.util.HashMap;
import java.util.List;
import java.util.Map;
import java.util.Set;
import java.util.TreeMap;

/**
 * The document once more, written by other means than the class: its objects are the host's own arrays, its failures
 * the host's own exceptions, its texts trees of functions. Random runs of calls are put to both.
 */
final class Model {
    static final int BAD = -1, STATE = -2, FULL = -3, LATE = -4, NONE = -9;

    private static final List<String> KINDS =
        List.of("yes", "whole", "money", "date", "choice", "many", "text", "table", "list", "signed", "entry");
    private static final List<String> SORTS =
        List.of("truths", "wholes", "moneys", "letters", "rows", "entries", "signeds", "one");
    private static final Set<String> OWN = Set.of("form", "until", "signers", "must", "when", "group", "yes", "whole", "money",
        "date", "choice", "many", "text", "table", "list", "signed", "entry", "figure", "check", "or", "and", "not", "len", "has",
        "is", "total", "try", "else", "truths", "wholes", "moneys", "letters", "rows", "entries", "signeds", "one");

    static class Entry {
        final int number;
        final int label;
        final long amount;

        Entry(int number, int label, long amount) {
            this.number = number;
            this.label = label;
            this.amount = amount;
        }
    }

    static final class Signed extends Entry {
        final int signer;

        Signed(int number, int label, long amount, int signer) {
            super(number, label, amount);
            this.signer = signer;
        }
    }

    /** THE FAULT of a text. */
    private static final class Fault extends RuntimeException {
        private static final long serialVersionUID = 1;
        final int place;

        Fault(int place) {
            super(null, null, false, false);
            this.place = place;
        }
    }

    /** A FAILURE, with the figure in which it arose. */
    private static final class Failure extends RuntimeException {
        private static final long serialVersionUID = 1;
        final int kind;
        final int arose;

        Failure(int kind, int arose) {
            super(null, null, false, false);
            this.kind = kind;
            this.arose = arose;
        }
    }

    private interface Exp {
        long work(Work w);
    }

    private static final class Part {
        String name;
        String kind;
        int group = NONE;
        boolean must;
        int[] bounds = new int[3];
        Exp when;
    }

    private static final class Form {
        int until = NONE;
        int signers;
        int nodes;
        final List<Part> parts = new ArrayList<>();
        final List<String> figureNames = new ArrayList<>();
        final List<Exp> figures = new ArrayList<>();
        final List<Integer> messages = new ArrayList<>();
        final List<Exp> checks = new ArrayList<>();

        boolean takes(int part) {
            return part >= 0 && part < parts.size() && !parts.get(part).kind.equals("group");
        }
    }

    private static final class Draft {
        int form;
        final Map<Integer, Object> answers = new TreeMap<>();
        final List<Object[]> givings = new ArrayList<>();
        int receipt = NONE;
        int signed;
    }

    private record Token(String text, int place, char kind) {
    }

    /** Reads one text. */
    private final class Text {
        final String text;
        final List<Token> tokens = new ArrayList<>();
        final Form form = new Form();
        final List<Runnable> names = new ArrayList<>();
        int at;

        Text(String text) {
            this.text = text;
            int i = 0;
            while (i < text.length()) {
                char c = text.charAt(i);
                int start = i;
                if (c == ' ' || c == '\n') {
                    i++;
                    continue;
                }
                if (c >= 'a' && c <= 'z') {
                    while (i < text.length() && (text.charAt(i) >= 'a' && text.charAt(i) <= 'z' || isDigit(i))) {
                        i++;
                    }
                    String word = text.substring(start, i);
                    tokens.add(new Token(word, start, word.length() > 8 ? '?' : OWN.contains(word) ? 'o' : 'n'));
                } else if (isDigit(i)) {
                    while (i < text.length() && isDigit(i)) {
                        i++;
                    }
                    tokens.add(new Token(text.substring(start, i), start, i - start > 6 ? '?' : '9'));
                } else {
                    i++;
                    tokens.add(new Token("" + c, start, ";{}()[],=<>+-*/%".indexOf(c) >= 0 ? 'o' : '?'));
                }
            }
            tokens.add(new Token("", text.length(), '.'));
        }

        boolean isDigit(int i) {
            return text.charAt(i) >= '0' && text.charAt(i) <= '9';
        }

        Token now() {
            return tokens.get(at);
        }

        boolean sees(String own) {
            return now().kind == 'o' && now().text.equals(own);
        }

        boolean accepts(String own) {
            if (sees(own)) {
                at++;
                return true;
            }
            return false;
        }

        Fault fault() {
            return new Fault(now().place);
        }

        void want(String own) {
            if (!accepts(own)) {
                throw fault();
            }
        }

        int number(int least, int most) {
            if (now().kind != '9') {
                throw fault();
            }
            int n = Integer.parseInt(now().text);
            if (n < least || n > most) {
                throw fault();
            }
            at++;
            return n;
        }

        Form read() {
            want("form");
            want(";");
            if (accepts("until")) {
                form.until = number(0, 9999);
                want(";");
            }
            if (accepts("signers")) {
                form.signers = number(0, 5);
                want(";");
            }
            parts(NONE, 0);
            while (sees("figure") || sees("check")) {
                rule();
            }
            if (now().kind != '.') {
                throw fault();
            }
            for (Runnable name : names) {
                name.run();
            }
            return form;
        }

        String name(boolean room) {
            String name = now().text;
            boolean known = form.figureNames.contains(name) || form.parts.stream().anyMatch(p -> p.name.equals(name));
            if (now().kind != 'n' || known || !room) {
                throw fault();
            }
            at++;
            return name;
        }

        void parts(int group, int inside) {
            while (true) {
                Part part = new Part();
                part.group = group;
                if (sees("group")) {
                    if (inside == 10) {
                        throw fault();
                    }
                    at++;
                    part.kind = "group";
                    part.name = name(form.parts.size() < 20);
                    form.parts.add(part);
                    int number = form.parts.size() - 1;
                    if (accepts("when")) {
                        part.when = exp(inside + 1);
                    }
                    want("{");
                    parts(number, inside + 1);
                    want("}");
                } else if (sees("must") || KINDS.contains(now().text)) {
                    part.must = accepts("must");
                    if (!KINDS.contains(now().text)) {
                        throw fault();
                    }
                    part.kind = now().text;
                    at++;
                    part.name = name(form.parts.size() < 20);
                    form.parts.add(part);
                    part.bounds = bounds(part.kind);
                    if (accepts("when")) {
                        part.when = exp(inside);
                    }
                    want(";");
                } else {
                    return;
                }
            }
        }

        int[] bounds(String kind) {
            int a;
            int b;
            switch (kind) {
                case "whole": a = number(0, 999999); return new int[] {a, number(a, 999999)};
                case "money": return new int[] {0, number(0, 999999)};
                case "date": a = number(0, 9999); return new int[] {a, number(a, 9999)};
                case "choice": return new int[] {0, number(2, 8) - 1};
                case "many": a = number(1, 8); b = number(0, a); return new int[] {b, number(b, a), a};
                case "text": return new int[] {1, number(1, 24)};
                case "table": a = number(1, 4); return new int[] {1, number(1, 6), a};
                case "list": case "signed": return new int[] {0, number(1, 8)};
                default: return new int[0];
            }
        }

        void rule() {
            if (accepts("figure")) {
                String name = name(form.figures.size() < 12);
                want("=");
                Exp exp = exp(0);
                want(";");
                form.figureNames.add(name);
                form.figures.add(exp);
                return;
            }
            want("check");
            if (form.checks.size() == 12) {
                throw fault();
            }
            form.messages.add(number(0, 999999));
            form.checks.add(exp(0));
            want(";");
        }

        void node() {
            if (form.nodes == 250) {
                throw fault();
            }
            form.nodes++;
        }

        boolean acceptsNode(String own) {
            if (!sees(own)) {
                return false;
            }
            node();
            at++;
            return true;
        }

        Exp exp(int inside) {
            Exp left = all(inside);
            while (acceptsNode("or")) {
                Exp a = left;
                Exp b = all(inside);
                left = w -> a.work(w) != 0 || b.work(w) != 0 ? 1 : 0;
            }
            return left;
        }

        Exp all(int inside) {
            Exp left = comp(inside);
            while (acceptsNode("and")) {
                Exp a = left;
                Exp b = comp(inside);
                left = w -> a.work(w) != 0 && b.work(w) != 0 ? 1 : 0;
            }
            return left;
        }

        Exp comp(int inside) {
            Exp a = sum(inside);
            if (acceptsNode("=")) {
                Exp b = sum(inside);
                return w -> a.work(w) == b.work(w) ? 1 : 0;
            }
            if (acceptsNode("<")) {
                Exp b = sum(inside);
                return w -> a.work(w) < b.work(w) ? 1 : 0;
            }
            if (acceptsNode(">")) {
                Exp b = sum(inside);
                return w -> a.work(w) > b.work(w) ? 1 : 0;
            }
            return a;
        }

        Exp sum(int inside) {
            Exp left = prod(inside);
            while (true) {
                Exp a = left;
                if (acceptsNode("+")) {
                    Exp b = prod(inside);
                    left = w -> a.work(w) + b.work(w);
                } else if (acceptsNode("-")) {
                    Exp b = prod(inside);
                    left = w -> a.work(w) - b.work(w);
                } else {
                    return left;
                }
            }
        }

        Exp prod(int inside) {
            Exp left = one(inside);
            while (true) {
                Exp a = left;
                if (acceptsNode("*")) {
                    Exp b = one(inside);
                    left = w -> a.work(w) * b.work(w);
                } else if (acceptsNode("/")) {
                    Exp b = one(inside);
                    left = w -> {
                        long x = a.work(w);
                        long y = b.work(w);
                        return w.host(() -> x / y);
                    };
                } else if (acceptsNode("%")) {
                    Exp b = one(inside);
                    left = w -> {
                        long x = a.work(w);
                        long y = b.work(w);
                        return w.host(() -> x % y);
                    };
                } else {
                    return left;
                }
            }
        }

        void deeper(int inside) {
            if (inside == 10) {
                throw fault();
            }
        }

        Exp one(int inside) {
            if (sees("-") || sees("not")) {
                boolean isMinus = sees("-");
                deeper(inside);
                node();
                at++;
                Exp a = one(inside + 1);
                return isMinus ? w -> -a.work(w) : w -> a.work(w) == 0 ? 1 : 0;
            }
            return base(inside);
        }

        Exp base(int inside) {
            if (now().kind == '9') {
                node();
                long n = Long.parseLong(now().text);
                at++;
                return w -> n;
            }
            if (now().kind == 'n') {
                return named(inside);
            }
            if (sees("(")) {
                deeper(inside);
                at++;
                Exp a = exp(inside + 1);
                want(")");
                return a;
            }
            if (sees("try")) {
                deeper(inside);
                node();
                at++;
                Exp a = one(inside + 1);
                want("else");
                Exp b = one(inside + 1);
                return w -> {
                    try {
                        return a.work(w);
                    } catch (Failure failure) {
                        w.elses++;
                        return b.work(w);
                    }
                };
            }
            return asked(inside);
        }

        /** The part and the figure of a name, known when all is read. */
        int[] use(boolean alone, int told) {
            if (now().kind != 'n') {
                throw fault();
            }
            node();
            Token token = now();
            at++;
            int[] found = {NONE, NONE};
            names.add(() -> {
                int figure = form.figureNames.indexOf(token.text);
                for (int p = 0; p < form.parts.size(); p++) {
                    if (form.parts.get(p).name.equals(token.text) && form.takes(p)) {
                        found[0] = p;
                    }
                }
                found[1] = alone && figure < told && figure >= 0 ? figure : NONE;
                if (found[0] == NONE && found[1] == NONE) {
                    throw new Fault(token.place);
                }
            });
            return found;
        }

        Exp named(int inside) {
            int told = form.figures.size();
            int[] use = use(!tokens.get(at + 1).text.equals("["), told);
            if (!sees("[")) {
                return w -> use[1] != NONE ? w.figure(use[1]) : w.name(use[0]);
            }
            deeper(inside);
            at++;
            Exp e = exp(inside + 1);
            if (!accepts(",")) {
                want("]");
                return w -> {
                    int i = (int) e.work(w);
                    return w.host(() -> w.item(w.taken(use[0]), i));
                };
            }
            Exp f = exp(inside + 1);
            want("]");
            return w -> {
                int i = (int) e.work(w);
                int j = (int) f.work(w);
                return w.host(() -> ((int[][]) w.answer(use[0]))[i][j]);
            };
        }

        Exp asked(int inside) {
            if (acceptsNode("len")) {
                int[] use = use(false, 0);
                return w -> w.host(() -> java.lang.reflect.Array.getLength(notNull(w.taken(use[0]))));
            }
            if (acceptsNode("has")) {
                int[] use = use(false, 0);
                return w -> w.answer(use[0]) != null ? 1 : 0;
            }
            if (acceptsNode("is")) {
                int sort = now().kind == 'o' ? SORTS.indexOf(now().text) : -1;
                if (sort < 0) {
                    throw fault();
                }
                at++;
                int[] use = use(false, 0);
                return w -> isOf(w.answer(use[0]), sort) ? 1 : 0;
            }
            if (!acceptsNode("total")) {
                throw fault();
            }
            int[] use = use(false, 0);
            if (!sees("[")) {
                return w -> w.host(() -> w.total(w.taken(use[0])));
            }
            deeper(inside);
            at++;
            Exp e = exp(inside + 1);
            want("]");
            return w -> {
                int j = (int) e.work(w);
                return w.host(() -> {
                    long sum = 0;
                    for (int[] row : (int[][]) w.answer(use[0])) {
                        sum += row[j];
                    }
                    return sum;
                });
            };
        }
    }

    private static Object notNull(Object o) {
        if (o == null) {
            throw new NullPointerException();
        }
        return o;
    }

    private static boolean isOf(Object o, int sort) {
        switch (sort) {
            case 0: return o instanceof boolean[];
            case 1: return o instanceof int[];
            case 2: return o instanceof long[];
            case 3: return o instanceof char[];
            case 4: return o instanceof int[][];
            case 5: return o instanceof Entry[];
            case 6: return o instanceof Signed[];
            default: return o instanceof Entry;
        }
    }

    private static int sortOf(Object o) {
        return o == null ? NONE : o instanceof Signed[] ? 6 : isOf(o, 0) ? 0 : isOf(o, 1) ? 1 : isOf(o, 2) ? 2 : isOf(o, 3) ? 3
            : isOf(o, 4) ? 4 : isOf(o, 5) ? 5 : 7;
    }

    /** The host's own words for what it throws. */
    private static int kindOfThrown(RuntimeException e) {
        return e instanceof NullPointerException ? 1 : e instanceof ClassCastException ? 2
            : e instanceof ArrayIndexOutOfBoundsException ? 3 : e instanceof ArithmeticException ? 4
            : e instanceof ArrayStoreException ? 5 : e instanceof NegativeArraySizeException ? 6 : 0;
    }

    private interface Host {
        long run();
    }

    /** One working of exps for answers. */
    private final class Work {
        final Form form;
        final Map<Integer, Object> answers;
        final Map<Integer, Long> values = new HashMap<>();
        final Map<Integer, Failure> failed = new HashMap<>();
        int current = NONE;
        int worked;
        int ended;
        int elses;

        Work(Form form, Map<Integer, Object> answers) {
            this.form = form;
            this.answers = answers;
        }

        long host(Host run) {
            try {
                return run.run();
            } catch (NullPointerException | ClassCastException | ArrayIndexOutOfBoundsException | ArithmeticException e) {
                failures++;
                throw new Failure(kindOfThrown(e), current);
            }
        }

        Object answer(int part) {
            return answers.get(part);
        }

        /** The answer taken AS its kind wants it. */
        Object taken(int part) {
            Object o = answers.get(part);
            switch (form.parts.get(part).kind) {
                case "yes": case "many": return (boolean[]) o;
                case "whole": case "date": case "choice": return (int[]) o;
                case "money": return (long[]) o;
                case "text": return (char[]) o;
                case "table": return (int[][]) o;
                case "signed": return (Signed[]) o;
                default: return (Entry[]) o;
            }
        }

        long item(Object o, int i) {
            if (o instanceof boolean[] row) {
                return row[i] ? 1 : 0;
            }
            if (o instanceof int[] row) {
                return row[i];
            }
            if (o instanceof long[] row) {
                return row[i];
            }
            if (o instanceof char[] row) {
                return row[i];
            }
            if (o instanceof int[][] row) {
                return row[i].length;
            }
            return ((Entry[]) notNull(o))[i].amount;
        }

        long total(Object o) {
            long sum = 0;
            for (int i = 0; i < java.lang.reflect.Array.getLength(notNull(o)); i++) {
                if (o instanceof int[][] rows) {
                    for (int v : rows[i]) {
                        sum += v;
                    }
                } else {
                    sum += item(o, i);
                }
            }
            return sum;
        }

        long name(int part) {
            return host(() -> {
                switch (form.parts.get(part).kind) {
                    case "many":
                        long n = 0;
                        for (boolean b : (boolean[]) taken(part)) {
                            n += b ? 1 : 0;
                        }
                        return n;
                    case "text": case "table": case "list": case "signed":
                        return java.lang.reflect.Array.getLength(notNull(taken(part)));
                    case "entry":
                        return ((Entry) answers.get(part)).amount;
                    default:
                        return item(notNull(taken(part)), 0);
                }
            });
        }

        long figure(int figure) {
            if (failed.containsKey(figure)) {
                throw failed.get(figure);
            }
            if (values.containsKey(figure)) {
                return values.get(figure);
            }
            int outer = current;
            current = figure;
            worked++;
            try {
                long v = form.figures.get(figure).work(this);
                values.put(figure, v);
                return v;
            } catch (Failure failure) {
                failed.put(figure, failure);
                throw failure;
            } finally {
                ended++;
                current = outer;
            }
        }

        List<int[]> findings() {
            List<int[]> all = new ArrayList<>();
            boolean[] shown = new boolean[form.parts.size()];
            for (int p = 0; p < shown.length; p++) {
                Part part = form.parts.get(p);
                if (part.group != NONE && !shown[part.group]) {
                    continue;
                }
                try {
                    shown[p] = part.when == null || part.when.work(this) != 0;
                    int kind = shown[p] && !part.kind.equals("group") ? look(part, p) : 0;
                    if (kind != 0) {
                        all.add(new int[] {kind, p, NONE, 0, NONE});
                    }
                } catch (Failure failure) {
                    all.add(new int[] {failure.kind, p, NONE, 0, NONE});
                }
            }
            for (int c = 0; c < form.checks.size(); c++) {
                try {
                    if (form.checks.get(c).work(this) == 0) {
                        all.add(new int[] {9, NONE, c, form.messages.get(c), NONE});
                    }
                } catch (Failure failure) {
                    all.add(new int[] {failure.kind, NONE, c, form.messages.get(c), failure.arose});
                }
            }
            return all;
        }

        int look(Part part, int p) {
            if (answers.get(p) == null) {
                return part.must ? 7 : 0;
            }
            return (int) host(() -> isInRange(part, p) ? 0 : 8);
        }

        boolean isInRange(Part part, int p) {
            int[] b = part.bounds;
            if (part.kind.equals("entry")) {
                return ((Entry) answers.get(p)).label >= 0;
            }
            Object o = taken(p);
            int n = java.lang.reflect.Array.getLength(o);
            switch (part.kind) {
                case "yes":
                    return ((boolean[]) o)[0] ? n == 1 : n == 1;
                case "whole": case "date": case "choice": case "money":
                    long v = item(o, 0);
                    return n == 1 && v >= b[0] && v <= b[1];
                case "many":
                    boolean last = ((boolean[]) o)[b[2] - 1];
                    long trues = total(o);
                    return (last || !last) && n <= b[2] && trues >= b[0] && trues <= b[1];
                case "text":
                    return n >= 1 && n <= b[1] && new String((char[]) o).chars().allMatch(c -> c >= 32 && c <= 126);
                case "table":
                    if (n < 1 || n > b[1]) {
                        return false;
                    }
                    for (int[] row : (int[][]) o) {
                        int asked = row[b[2] - 1];
                        if (row.length > b[2]) {
                            return false;
                        }
                    }
                    return true;
                default:
                    if (n > b[1]) {
                        return false;
                    }
                    int sum = 0;
                    for (Entry e : (Entry[]) o) {
                        sum += e.label;
                    }
                    return sum >= 0;
            }
        }
    }

    private String tape = "";
    private final List<Form> forms = new ArrayList<>();
    private final List<Entry> entries = new ArrayList<>();
    private Object desk;
    private final List<Draft> drafts = new ArrayList<>();
    private int filed;
    private int givings;
    private int failures;
    private List<int[]> findings = new ArrayList<>();
    private long value;
    private int[] told = {0, 0, 0, NONE};
    private final List<int[]> moves = new ArrayList<>();
    private int[] came = {};
    private int[] disk = {};
    private int searched = NONE;
    private boolean goesOn;
    private Map<Integer, Object> found;
    private List<Map<Integer, Object>> fillings = new ArrayList<>();
    private int nextFilling;
    private int[] proofs = new int[9];

    private boolean isFull() {
        return failures >= 10000;
    }

    private Draft draftAt(int draft) {
        return draft < 0 || draft >= drafts.size() ? null : drafts.get(draft);
    }

    private Form formAt(int form) {
        return form < 0 || form >= forms.size() ? null : forms.get(form);
    }

    /** Which form a draft is of, for those who choose calls. */
    int formOf(int draft) {
        Draft d = draftAt(draft);
        return d == null ? 0 : d.form;
    }

    int feed(int n, long bytes) {
        if (n < 1 || n > 8) {
            return BAD;
        }
        if (tape.length() + n > 1400) {
            return FULL;
        }
        for (int i = 0; i < n; i++) {
            tape += (char) (bytes >>> 8 * i & 255);
        }
        return tape.length();
    }

    int form() {
        String text = tape;
        tape = "";
        if (forms.size() == 10) {
            return FULL;
        }
        try {
            forms.add(new Text(text).read());
            return forms.size() - 1;
        } catch (Fault fault) {
            return -10 - fault.place;
        }
    }

    int about(int form, int what) {
        Form f = formAt(form);
        if (f == null || what < 0 || what > 5) {
            return -100;
        }
        return new int[] {f.parts.size(), f.figures.size(), f.checks.size(), f.nodes, f.until, f.signers}[what];
    }

    int part(int form, int part, int what) {
        Form f = formAt(form);
        if (f == null || part < 0 || part >= f.parts.size() || what < 0 || what > 2) {
            return -100;
        }
        Part p = f.parts.get(part);
        int kind = p.kind.equals("group") ? 11 : KINDS.indexOf(p.kind);
        return new int[] {kind, p.group, p.must ? 1 : 0}[what];
    }

    int entry(int label, long amount, int signer) {
        if (label < 0 || label > 999 || signer != NONE && (signer < 0 || signer > 9)) {
            return BAD;
        }
        if (entries.size() == 100) {
            return FULL;
        }
        int n = entries.size();
        entries.add(signer == NONE ? new Entry(n, label, amount) : new Signed(n, label, amount, signer));
        return n;
    }

    private interface Act {
        void run();
    }

    private int onDesk(Act act) {
        if (isFull()) {
            return FULL;
        }
        try {
            act.run();
            return 0;
        } catch (NullPointerException | ClassCastException | ArrayIndexOutOfBoundsException | ArrayStoreException
                | NegativeArraySizeException e) {
            failures++;
            return -10 - kindOfThrown(e);
        }
    }

    private static Object newObject(int sort, int n) {
        switch (sort) {
            case 0: return new boolean[n];
            case 1: return new int[n];
            case 2: return new long[n];
            case 3: return new char[n];
            case 4: return new int[n][];
            case 5: return new Entry[n];
            default: return new Signed[n];
        }
    }

    int desk(int sort, int n) {
        if (sort < 0 || sort > 7 || sort == 7 && (n < 0 || n >= entries.size()) || sort < 7 && n > (sort == 4 ? 6 : 12)) {
            return BAD;
        }
        return onDesk(() -> desk = sort == 7 ? entries.get(n) : newObject(sort, n));
    }

    int clear() {
        desk = null;
        return 0;
    }

    int write(int i, long v) {
        return onDesk(() -> {
            if (desk instanceof boolean[] row) {
                row[i] = v != 0;
            } else if (desk instanceof int[] row) {
                row[i] = (int) v;
            } else if (desk instanceof long[] row) {
                row[i] = v;
            } else {
                ((char[]) desk)[i] = (char) v;
            }
        });
    }

    int line(int i, int n) {
        if (n > 6) {
            return BAD;
        }
        return onDesk(() -> {
            int[] row = new int[n];
            ((int[][]) desk)[i] = row;
        });
    }

    int cell(int i, int j, int v) {
        return onDesk(() -> ((int[][]) desk)[i][j] = v);
    }

    int seat(int i, int entry) {
        if (entry < -1 || entry >= entries.size()) {
            return BAD;
        }
        return onDesk(() -> ((Entry[]) desk)[i] = entry == -1 ? null : entries.get(entry));
    }

    int sort() {
        return sortOf(desk);
    }

    int draft(int form) {
        if (formAt(form) == null) {
            return BAD;
        }
        return drafts.size() == 30 ? FULL : add(form, new TreeMap<>());
    }

    private int add(int form, Map<Integer, Object> answers) {
        Draft d = new Draft();
        d.form = form;
        d.answers.putAll(answers);
        drafts.add(d);
        return drafts.size() - 1;
    }

    private boolean hasPart(Draft d, int part) {
        return d != null && forms.get(d.form).takes(part);
    }

    private static void put(Map<Integer, Object> answers, int part, Object o) {
        if (o == null) {
            answers.remove(part);
        } else {
            answers.put(part, o);
        }
    }

    int give(int draft, int part) {
        Draft d = draftAt(draft);
        if (!hasPart(d, part)) {
            return BAD;
        }
        if (d.receipt != NONE) {
            return STATE;
        }
        if (givings == 400) {
            return FULL;
        }
        giving(d, part, desk);
        desk = null;
        return d.givings.size();
    }

    private void giving(Draft d, int part, Object o) {
        givings++;
        d.givings.add(new Object[] {part, d.answers.get(part)});
        put(d.answers, part, o);
    }

    int takeBack(int draft) {
        Draft d = draftAt(draft);
        if (d == null) {
            return BAD;
        }
        if (d.receipt != NONE || d.givings.isEmpty()) {
            return STATE;
        }
        Object[] undone = d.givings.remove(d.givings.size() - 1);
        put(d.answers, (Integer) undone[0], undone[1]);
        return (Integer) undone[0];
    }

    int kindOf(int draft, int part) {
        Draft d = draftAt(draft);
        return hasPart(d, part) ? sortOf(d.answers.get(part)) : BAD;
    }

    private static int numberOf(Entry e) {
        return e == null ? NONE : e.number;
    }

    long item(int draft, int part, int i) {
        Draft d = draftAt(draft);
        Object o = hasPart(d, part) ? d.answers.get(part) : null;
        if (o == null) {
            return -100;
        }
        int n = o instanceof Entry ? 1 : java.lang.reflect.Array.getLength(o);
        if (i == -1) {
            return n;
        }
        if (i < 0 || i >= n) {
            return -100;
        }
        return o instanceof Entry e ? e.number : o instanceof Entry[] row ? numberOf(row[i]) : o instanceof boolean[] row ? (row[i] ? 1 : 0)
            : o instanceof int[] row ? row[i] : o instanceof long[] row ? row[i] : o instanceof char[] row ? row[i]
            : ((int[][]) o)[i] == null ? NONE : ((int[][]) o)[i].length;
    }

    int cellOf(int draft, int part, int i, int j) {
        Draft d = draftAt(draft);
        Object o = hasPart(d, part) ? d.answers.get(part) : null;
        if (!(o instanceof int[][] rows) || i < 0 || i >= rows.length || rows[i] == null || j < 0 || j >= rows[i].length) {
            return 0;
        }
        return rows[i][j];
    }

    private static void bytes(List<Integer> all, long v, int n) {
        for (int i = n - 1; i >= 0; i--) {
            all.add((int) (v >>> 8 * i & 255));
        }
    }

    private static int[] written(Draft d) {
        List<Integer> all = new ArrayList<>();
        d.answers.forEach((part, o) -> {
            int from = all.size();
            all.add(part);
            all.add(sortOf(o));
            all.add(o instanceof Entry ? 1 : java.lang.reflect.Array.getLength(o));
            if (o instanceof Entry e) {
                all.add(e.number);
            } else if (o instanceof boolean[] row) {
                for (boolean b : row) {
                    all.add(b ? 1 : 0);
                }
            } else if (o instanceof int[] row) {
                for (int v : row) {
                    bytes(all, v, 4);
                }
            } else if (o instanceof long[] row) {
                for (long v : row) {
                    bytes(all, v, 8);
                }
            } else if (o instanceof char[] row) {
                for (char v : row) {
                    bytes(all, v, 2);
                }
            } else if (o instanceof Entry[] row) {
                for (Entry e : row) {
                    all.add(e == null ? 0 : e.number + 1);
                }
            } else {
                for (int[] row : (int[][]) o) {
                    all.add(row == null ? 255 : row.length);
                    for (int v : row == null ? new int[0] : row) {
                        bytes(all, v, 4);
                    }
                }
            }
            bytes(all, sumOf(all.subList(from, all.size())), 2);
        });
        return all.stream().mapToInt(b -> b).toArray();
    }

    private static int sumOf(List<Integer> row) {
        int sum = 0;
        for (int b : row) {
            sum = (sum * 31 + b) % 65536;
        }
        return sum;
    }

    int digest(int draft) {
        Draft d = draftAt(draft);
        if (d == null) {
            return 0;
        }
        int h = 17;
        for (int b : written(d)) {
            h = h * 31 + b;
        }
        return h;
    }

    private void tell(Work w, int arose) {
        told = new int[] {w.worked, w.ended, w.elses, arose};
    }

    private List<int[]> look(Draft d) {
        Work w = new Work(forms.get(d.form), d.answers);
        List<int[]> all = w.findings();
        tell(w, NONE);
        findings = all;
        return all;
    }

    int check(int draft) {
        Draft d = draftAt(draft);
        return d == null ? BAD : isFull() ? FULL : look(d).size();
    }

    int finding(int i, int what) {
        return i < 0 || i >= findings.size() || what < 0 || what > 4 ? -100 : findings.get(i)[what];
    }

    int shown(int draft, int part) {
        Draft d = draftAt(draft);
        if (d == null || part < 0 || part >= forms.get(d.form).parts.size()) {
            return BAD;
        }
        if (isFull()) {
            return FULL;
        }
        Form f = forms.get(d.form);
        List<Part> around = new ArrayList<>();
        for (int p = part; p != NONE; p = f.parts.get(p).group) {
            around.add(0, f.parts.get(p));
        }
        Work w = new Work(f, d.answers);
        int answer = 1;
        try {
            for (Part p : around) {
                if (answer == 1 && p.when != null && p.when.work(w) == 0) {
                    answer = 0;
                }
            }
        } catch (Failure failure) {
            answer = 0;
        }
        tell(w, NONE);
        return answer;
    }

    int figure(int draft, int figure) {
        Draft d = draftAt(draft);
        if (d == null || figure < 0 || figure >= forms.get(d.form).figures.size()) {
            return BAD;
        }
        if (isFull()) {
            return FULL;
        }
        Work w = new Work(forms.get(d.form), d.answers);
        try {
            value = w.figure(figure);
            tell(w, NONE);
            return 0;
        } catch (Failure failure) {
            tell(w, failure.arose);
            return failure.kind;
        }
    }

    long value() {
        return value;
    }

    int told(int what) {
        return what < 0 || what > 3 ? BAD : told[what];
    }

    int submit(int draft, int day) {
        Draft d = draftAt(draft);
        if (d == null || day < 0 || day > 9999) {
            return BAD;
        }
        if (isFull()) {
            return FULL;
        }
        if (d.receipt != NONE) {
            return STATE;
        }
        int until = forms.get(d.form).until;
        if (until != NONE && day > until) {
            return LATE;
        }
        int n = look(d).size();
        if (n > 0) {
            return -10 - n;
        }
        d.receipt = ++filed;
        return filed;
    }

    int receipt(int draft) {
        Draft d = draftAt(draft);
        return d == null ? BAD : d.receipt;
    }

    int earlier(int a, int b) {
        Draft first = draftAt(a);
        Draft second = draftAt(b);
        if (first == null || second == null) {
            return BAD;
        }
        return first.receipt == NONE || second.receipt == NONE ? STATE : first.receipt > second.receipt ? 1 : 0;
    }

    int sign(int draft, int who) {
        Draft d = draftAt(draft);
        if (d == null || who < 0 || who >= forms.get(d.form).signers) {
            return BAD;
        }
        if (d.receipt == NONE || who != d.signed) {
            return STATE;
        }
        return forms.get(d.form).signers - ++d.signed;
    }

    long stats(int form, int part, int what) {
        Form f = formAt(form);
        if (f == null || !f.takes(part) || what < 0 || what > 2) {
            return -100;
        }
        if (isFull()) {
            return -101;
        }
        long[] all = new long[3];
        for (Draft d : drafts) {
            if (d.form == form && d.receipt != NONE && d.answers.get(part) != null) {
                all[0]++;
                try {
                    all[1] += what == 0 ? 0 : new Work(f, d.answers).name(part);
                } catch (Failure failure) {
                    all[2]++;
                }
            }
        }
        return all[what];
    }

    int move(int form, int part, int toForm, int toPart) {
        Form from = formAt(form);
        Form to = formAt(toForm);
        if (from == null || to == null || !from.takes(part) || !to.takes(toPart)) {
            return BAD;
        }
        if (moves.size() == 40) {
            return FULL;
        }
        moves.add(new int[] {form, part, toForm, toPart});
        return moves.size() - 1;
    }

    int migrate(int draft, int form) {
        Draft d = draftAt(draft);
        if (d == null || formAt(form) == null) {
            return BAD;
        }
        if (isFull() || drafts.size() == 30) {
            return FULL;
        }
        came = new int[moves.size()];
        Arrays.fill(came, NONE);
        Map<Integer, Object> answers = new TreeMap<>();
        for (int i = 0; i < came.length; i++) {
            int[] m = moves.get(i);
            if (m[0] == d.form && m[2] == form) {
                Object copy = copied(d.answers.get(m[1]), forms.get(form).parts.get(m[3]).kind, i);
                put(answers, m[3], copy);
            }
        }
        return add(form, answers);
    }

    private Object copied(Object o, String kind, int move) {
        came[move] = o == null ? 0 : o instanceof Entry ? 1 : java.lang.reflect.Array.getLength(o);
        if (o == null || o instanceof Entry) {
            return o;
        }
        if (o instanceof int[][] rows) {
            int[][] copy = new int[rows.length][];
            for (int i = 0; i < rows.length; i++) {
                copy[i] = rows[i] == null ? null : rows[i].clone();
            }
            return copy;
        }
        int n = came[move];
        int sort = sortOf(o) == 5 && kind.equals("signed") ? 6 : sortOf(o) == 6 && kind.equals("list") ? 5 : sortOf(o);
        Object copy = newObject(sort, n);
        try {
            System.arraycopy(o, 0, copy, 0, n);
        } catch (ArrayStoreException e) {
            failures++;
            int ahead = 0;
            while (((Entry[]) o)[ahead] == null || ((Entry[]) o)[ahead] instanceof Signed) {
                ahead++;
            }
            came[move] = ahead;
        }
        return copy;
    }

    int cameOver(int move) {
        return move < 0 || move >= moves.size() ? BAD : move < came.length ? came[move] : NONE;
    }

    private static List<Object> candidates(Part p) {
        int[] b = p.bounds;
        switch (p.kind) {
            case "yes": return List.of(new boolean[1], new boolean[] {true});
            case "whole": case "date":
                return b[0] == b[1] ? List.of(new int[] {b[0]}) : List.of(new int[] {b[0]}, new int[] {b[1]});
            case "money": return List.of(new long[] {0}, new long[] {b[1]});
            case "choice":
                List<Object> all = new ArrayList<>();
                for (int i = 0; i <= b[1]; i++) {
                    all.add(new int[] {i});
                }
                return all;
            case "many":
                boolean[] trues = new boolean[b[2]];
                Arrays.fill(trues, true);
                return List.of(new boolean[b[2]], trues);
            default: return List.of();
        }
    }

    private static void fillings(Form f, List<Integer> places, int from, int left, Map<Integer, List<Object>> sets, List<Map<Integer, Object>> into) {
        if (left == 0) {
            List<Map<Integer, Object>> all = new ArrayList<>();
            all.add(new TreeMap<>());
            for (Map.Entry<Integer, List<Object>> e : sets.entrySet()) {
                List<Map<Integer, Object>> longer = new ArrayList<>();
                for (Map<Integer, Object> a : all) {
                    for (Object o : e.getValue()) {
                        Map<Integer, Object> b = new TreeMap<>(a);
                        b.put(e.getKey(), o);
                        longer.add(b);
                    }
                }
                all = longer;
            }
            into.addAll(all);
            return;
        }
        for (int i = from; i < places.size(); i++) {
            Map<Integer, List<Object>> more = new TreeMap<>(sets);
            more.put(places.get(i), candidates(f.parts.get(places.get(i))));
            fillings(f, places, i + 1, left - 1, more, into);
        }
    }

    int shortest(int form, int work) {
        Form f = formAt(form);
        if (f == null || work < 1 || work > 100) {
            return BAD;
        }
        List<Integer> places = new ArrayList<>();
        for (int p = 0; p < f.parts.size(); p++) {
            if (!candidates(f.parts.get(p)).isEmpty()) {
                places.add(p);
            }
        }
        if (places.size() > 8) {
            return BAD;
        }
        if (isFull()) {
            return FULL;
        }
        if (!goesOn || searched != form) {
            searched = form;
            nextFilling = 0;
            proofs = new int[9];
            found = null;
            fillings = new ArrayList<>();
        }
        goesOn = true;
        for (int i = 0; i < work; i++) {
            if (isFull()) {
                return FULL;
            }
            if (fillings.size() == nextFilling) {
                // They are made in order, as far as they are wanted: there can be very many.
                fillings(f, places, 0, fillings.isEmpty() ? 0 : fillings.get(nextFilling - 1).size() + 1, new TreeMap<>(), fillings);
            }
            Map<Integer, Object> next = fillings.get(nextFilling++);
            proofs[next.size()]++;
            if (new Work(f, next).findings().isEmpty()) {
                found = next;
                goesOn = false;
                return 100 + next.size();
            }
            if (nextFilling == fillings.size() && next.size() == places.size()) {
                goesOn = false;
                return 1;
            }
        }
        return 2;
    }

    int proof(int m) {
        return m < 0 || m > 8 ? -1 : proofs[m];
    }

    int keep() {
        if (found == null) {
            return STATE;
        }
        if (drafts.size() == 30 || givings + found.size() > 400) {
            return FULL;
        }
        int made = add(searched, new TreeMap<>());
        found.forEach((part, o) -> giving(drafts.get(made), part, o));
        return made;
    }

    int export(int draft) {
        Draft d = draftAt(draft);
        if (d == null) {
            return BAD;
        }
        int[] bytes = written(d);
        if (bytes.length > 1200) {
            return FULL;
        }
        disk = bytes;
        return disk.length;
    }

    int disk(int i) {
        return i < 0 || i >= disk.length ? BAD : disk[i];
    }

    int alter(int i, int bits) {
        return i < 0 || i >= disk.length || bits < 0 || bits > 255 ? BAD : (disk[i] ^= bits);
    }

    int cutDisk(int n) {
        if (n < 0 || n > disk.length) {
            return BAD;
        }
        int gone = disk.length - n;
        disk = Arrays.copyOf(disk, n);
        return gone;
    }

    int take(int form) {
        Form f = formAt(form);
        if (f == null) {
            return BAD;
        }
        if (drafts.size() == 30) {
            return FULL;
        }
        Map<Integer, Object> answers = new TreeMap<>();
        int row = 0;
        int at = 0;
        int before = -1;
        while (at < disk.length) {
            int end = rowEnd(at);
            if (end < 0 || disk[at] <= before || !f.takes(disk[at])) {
                return -10 - row;
            }
            Object o = objectOf(Arrays.copyOfRange(disk, at, end));
            if (o == null) {
                return -10 - row;
            }
            before = disk[at];
            answers.put(before, o);
            at = end;
            row++;
        }
        return add(form, answers);
    }

    /** Where a row ends by its own lengths, its sum and all; -1 if it can't be one. */
    private int rowEnd(int at) {
        if (at + 3 > disk.length || disk[at + 1] > 7) {
            return -1;
        }
        int sort = disk[at + 1];
        int n = disk[at + 2];
        int end = at + 3;
        if (n > (sort == 4 ? 6 : 12)) {
            return -1;
        }
        if (sort != 4) {
            end += n * new int[] {1, 4, 8, 2, 0, 1, 1, 1}[sort];
        } else {
            for (int i = 0; i < n; i++) {
                if (end >= disk.length || disk[end] > 6 && disk[end] != 255) {
                    return -1;
                }
                end += disk[end] == 255 ? 1 : 1 + 4 * disk[end];
            }
        }
        return end + 2 > disk.length ? -1 : end + 2;
    }

    private static long number(int[] row, int at, int n) {
        long v = 0;
        for (int i = 0; i < n; i++) {
            v = v * 256 + row[at + i];
        }
        return v;
    }

    private Object objectOf(int[] row) {
        int sum = 0;
        for (int i = 0; i < row.length - 2; i++) {
            sum = (sum * 31 + row[i]) % 65536;
        }
        if (sum != number(row, row.length - 2, 2)) {
            return null;
        }
        int sort = row[1];
        int n = row[2];
        if (sort == 7) {
            return n == 1 && row[3] < entries.size() ? entries.get(row[3]) : null;
        }
        Object o = newObject(sort, n);
        int at = 3;
        for (int i = 0; i < n; i++) {
            switch (sort) {
                case 0:
                    if (row[at] > 1) {
                        return null;
                    }
                    ((boolean[]) o)[i] = row[at++] == 1;
                    break;
                case 1:
                    ((int[]) o)[i] = (int) number(row, at, 4);
                    at += 4;
                    break;
                case 2:
                    ((long[]) o)[i] = number(row, at, 8);
                    at += 8;
                    break;
                case 3:
                    ((char[]) o)[i] = (char) number(row, at, 2);
                    at += 2;
                    break;
                case 4:
                    int[] cells = row[at] == 255 ? null : new int[row[at]];
                    at++;
                    for (int j = 0; cells != null && j < cells.length; j++) {
                        cells[j] = (int) number(row, at, 4);
                        at += 4;
                    }
                    ((int[][]) o)[i] = cells;
                    break;
                default:
                    if (row[at] > entries.size() || sort == 6 && row[at] > 0 && !(entries.get(row[at] - 1) instanceof Signed)) {
                        return null;
                    }
                    ((Entry[]) o)[i] = row[at] == 0 ? null : entries.get(row[at] - 1);
                    at++;
                    break;
            }
        }
        return o;
    }

    int count(int what) {
        if (what < 0 || what > 8) {
            return BAD;
        }
        return new int[] {forms.size(), entries.size(), drafts.size(), filed, moves.size(), tape.length(), disk.length, failures, givings}[what];
    }
}
