import java.util.Arrays;

/** An office of forms: their texts, objects, drafts, moves, fillings and a disk, as DOC.md tells them. */
public final class FormMill {
    public static final int BAD = -1, STATE = -2, FULL = -3, LATE = -4, NONE = -9;

    private static final int NULL = 1, CAST = 2, INDEX = 3, DIVIDE = 4, STORE = 5, SIZE = 6;
    private static final int LACK = 7, RANGE = 8, FALSE = 9;

    private static final int TRUTHS = 0, WHOLES = 1, MONEYS = 2, LETTERS = 3;
    private static final int ROWS = 4, ENTRIES = 5, SIGNEDS = 6, ONE = 7;

    private static final int YES = 0, WHOLE = 1, MONEY = 2, DATE = 3, CHOICE = 4, MANY = 5;
    private static final int TEXT = 6, TABLE = 7, LIST = 8, SIGNED = 9, ENTRY = 10, GROUP = 11;

    /** The SORT that the answer of a part is taken AS, by the part's kind (a group has no answer). */
    private static final int[] AS = {
        TRUTHS, WHOLES, MONEYS, WHOLES, WHOLES, TRUTHS, LETTERS, ROWS, ENTRIES, SIGNEDS, ENTRIES, NONE
    };

    private static final int MOST_FORMS = 10, MOST_PARTS = 20, MOST_FIGURES = 12, MOST_CHECKS = 12;
    private static final int MOST_NODES = 250, MOST_CODE = 560, MOST_DEPTH = 10;
    private static final int MOST_BYTES = 1400, MOST_NUMBER = 999999, MOST_DAY = 9999;
    private static final int MOST_ITEMS = 12, MOST_ROWS = 6, MOST_CELLS = 6, MOST_ENTRIES = 100;
    private static final int MOST_LABEL = 999, MOST_SIGNER = 9, MOST_FAILURES = 10000;
    private static final int MOST_DRAFTS = 30, MOST_GIVINGS = 400, MOST_MOVES = 40;
    private static final int MOST_TRIED = 8, MOST_CHOICES = 8, MOST_WORK = 100;
    private static final int MOST_DISK = 1200, MOST_LAID = 3200, NO_ROW = 255;

    /** BAD and FULL of the calls among whose own answers -1 and -3 are. */
    private static final int NOT_THERE = -100, STATS_FULL = -101;

    /** Tokens: a sign is told by its own code, a word that stands for itself by its place in WORDS. */
    private static final int END = 0, WRONG = 1, NUMBER = 2, NAME = 3;
    private static final String SIGNS = ";{}()[],=<>+-*/%";
    private static final String WORDS = "form until signers must when group yes whole money date choice many text table list signed entry figure check or and not len has is total try else truths wholes moneys letters rows entries signeds one ";
    private static final int WORD_COUNT = 36, WORD_LETTERS = 8, NUMBER_DIGITS = 6;
    private static final int W_FORM = 200, W_UNTIL = 201, W_SIGNERS = 202, W_MUST = 203, W_WHEN = 204, W_GROUP = 205;
    private static final int W_YES = 206, W_FIGURE = 217, W_CHECK = 218, W_OR = 219, W_AND = 220, W_NOT = 221;
    private static final int W_LEN = 222, W_HAS = 223, W_IS = 224, W_TOTAL = 225, W_TRY = 226, W_ELSE = 227;
    private static final int W_TRUTHS = 228;

    /** Exps are kept as code for a stack: first what moves in the code, then what asks parts, then what reckons. */
    private static final int DO_STOP = 0, DO_NUMBER = 1, DO_FIGURE = 2, DO_OR = 3, DO_AND = 4, DO_TRY = 5, DO_TRIED = 6;
    private static final int DO_NAME = 7, DO_LEN = 8, DO_HAS = 9, DO_IS = 10, DO_TOTAL = 11;
    private static final int DO_ITEM = 12, DO_CELL = 13, DO_COLUMN = 14;
    private static final int DO_TRUTH = 15, DO_NEGATE = 16, DO_NOT = 17, DO_EQUAL = 18, DO_LESS = 19, DO_MORE = 20;
    private static final int DO_ADD = 21, DO_SUBTRACT = 22, DO_MULTIPLY = 23, DO_DIVIDE = 24, DO_REST = 25;

    private final Tape tape;
    private final Reader reader;
    private final Form[] forms;
    private int formCount;
    private Form blank;
    private final Ledger ledger;
    private Obj held;
    private final Draft[] drafts;
    private int draftCount;
    private int filedCount;
    private int givingCount;
    private final Worker worker;
    private final Inspector inspector;
    private long figureValue;
    private final int[] toldOf;
    private final int[][] moves;
    private int moveCount;
    private final int[] came;
    private final Search search;
    private final Disk store;

    public FormMill() {
        tape = new Tape();
        reader = new Reader(tape);
        forms = new Form[MOST_FORMS];
        blank = new Form();
        ledger = new Ledger();
        drafts = new Draft[MOST_DRAFTS];
        worker = new Worker(ledger);
        inspector = new Inspector(worker);
        toldOf = new int[] {0, 0, 0, NONE};
        moves = new int[MOST_MOVES][4];
        came = new int[MOST_MOVES];
        Arrays.fill(came, NONE);
        search = new Search(worker);
        store = new Disk(ledger);
    }

    // ---- texts

    public int feed(int n, long bytes) {
        if (n < 1 || n > 8) {
            return BAD;
        }
        return tape.append(n, bytes) ? tape.length : FULL;
    }

    public int form() {
        if (formCount >= MOST_FORMS) {
            tape.length = 0;
            return FULL;
        }
        int fault = reader.read(blank);
        tape.length = 0;
        if (fault != NONE) {
            return -10 - fault;
        }
        forms[formCount] = blank;
        formCount++;
        // A text that is refused leaves the blank form to the next one, so only forms that stand take room.
        blank = new Form();
        return formCount - 1;
    }

    public int about(int form, int what) {
        Form f = formAt(form);
        if (f == null) {
            return NOT_THERE;
        }
        switch (what) {
            case 0: return f.parts;
            case 1: return f.figures;
            case 2: return f.checks;
            case 3: return f.nodes;
            case 4: return f.until;
            case 5: return f.signers;
            default: return NOT_THERE;
        }
    }

    public int part(int form, int part, int what) {
        Form f = formAt(form);
        if (f == null || part < 0 || part >= f.parts) {
            return NOT_THERE;
        }
        switch (what) {
            case 0: return f.kind[part];
            case 1: return f.group[part];
            case 2: return f.must[part];
            default: return NOT_THERE;
        }
    }

    // ---- entries, the desk

    public int entry(int label, long amount, int signer) {
        if (label < 0 || label > MOST_LABEL || signer != NONE && (signer < 0 || signer > MOST_SIGNER)) {
            return BAD;
        }
        return ledger.enter(amount, signer);
    }

    public int desk(int sort, int n) {
        if (sort < TRUTHS || sort > ONE) {
            return BAD;
        }
        if (sort == ONE ? !ledger.holds(n) : n > (sort == ROWS ? MOST_ROWS : MOST_ITEMS)) {
            return BAD;
        }
        if (worker.isFull()) {
            return FULL;
        }
        if (n < 0) {
            return fails(SIZE);
        }
        held = sort == ONE ? new Obj(ONE, 1) : new Obj(sort, n);
        if (sort == ONE) {
            held.put(0, n);
        }
        return 0;
    }

    public int clear() {
        held = null;
        return 0;
    }

    public int write(int i, long v) {
        if (worker.isFull()) {
            return FULL;
        }
        if (held == null) {
            return fails(NULL);
        }
        if (held.sort > LETTERS) {
            return fails(CAST);
        }
        if (!held.holds(i)) {
            return fails(INDEX);
        }
        held.put(i, v);
        return 0;
    }

    public int line(int i, int n) {
        if (n > MOST_CELLS) {
            return BAD;
        }
        if (worker.isFull()) {
            return FULL;
        }
        if (n < 0) {
            return fails(SIZE);
        }
        int failure = deskFailure(i, ROWS);
        if (failure != 0) {
            return fails(failure);
        }
        held.rows[i] = new int[n];
        return 0;
    }

    public int cell(int i, int j, int v) {
        if (worker.isFull()) {
            return FULL;
        }
        int failure = deskFailure(i, ROWS);
        if (failure != 0) {
            return fails(failure);
        }
        int[] row = held.rows[i];
        if (row == null) {
            return fails(NULL);
        }
        if (j < 0 || j >= row.length) {
            return fails(INDEX);
        }
        row[j] = v;
        return 0;
    }

    public int seat(int i, int entry) {
        if (entry != -1 && !ledger.holds(entry)) {
            return BAD;
        }
        if (worker.isFull()) {
            return FULL;
        }
        int failure = deskFailure(i, ENTRIES);
        if (failure != 0) {
            return fails(failure);
        }
        if (held.sort == SIGNEDS && entry != -1 && !ledger.isSigned(entry)) {
            return fails(STORE);
        }
        held.put(i, entry == -1 ? NONE : entry);
        return 0;
    }

    public int sort() {
        return held == null ? NONE : held.sort;
    }

    // ---- drafts

    public int draft(int form) {
        if (formAt(form) == null) {
            return BAD;
        }
        return draftCount >= MOST_DRAFTS ? FULL : open(new Draft(form, forms[form]));
    }

    public int give(int draft, int part) {
        Draft d = draftAt(draft);
        if (d == null || !d.form.isAnswered(part)) {
            return BAD;
        }
        if (d.receipt != NONE) {
            return STATE;
        }
        if (givingCount >= MOST_GIVINGS) {
            return FULL;
        }
        givingCount++;
        d.put(part, held);
        held = null;
        return d.givings;
    }

    public int takeBack(int draft) {
        Draft d = draftAt(draft);
        if (d == null) {
            return BAD;
        }
        return d.receipt != NONE || d.latest == null ? STATE : d.undo();
    }

    public int kindOf(int draft, int part) {
        Draft d = draftAt(draft);
        if (d == null || !d.form.isAnswered(part)) {
            return BAD;
        }
        Obj answer = d.answers[part];
        return answer == null ? NONE : answer.sort;
    }

    public long item(int draft, int part, int i) {
        Obj answer = answerOf(draft, part);
        if (answer == null) {
            return NOT_THERE;
        }
        if (i == -1) {
            return answer.size;
        }
        if (!answer.holds(i)) {
            return NOT_THERE;
        }
        if (answer.sort != ROWS) {
            return answer.items[i];
        }
        return answer.rows[i] == null ? NONE : answer.rows[i].length;
    }

    public int cellOf(int draft, int part, int i, int j) {
        Obj answer = answerOf(draft, part);
        if (answer == null || answer.sort != ROWS || !answer.holds(i)) {
            return 0;
        }
        int[] row = answer.rows[i];
        return row == null || j < 0 || j >= row.length ? 0 : row[j];
    }

    public int digest(int draft) {
        Draft d = draftAt(draft);
        if (d == null) {
            return 0;
        }
        store.lay(d);
        return store.hash();
    }

    // ---- working

    public int check(int draft) {
        Draft d = draftAt(draft);
        if (d == null) {
            return BAD;
        }
        if (worker.isFull()) {
            return FULL;
        }
        int findings = inspector.inspect(d.form, d.answers);
        tell(NONE);
        return findings;
    }

    public int finding(int i, int what) {
        if (i < 0 || i >= inspector.findings) {
            return NOT_THERE;
        }
        switch (what) {
            case 0: return inspector.what[i];
            case 1: return inspector.ofPart[i];
            case 2: return inspector.ofCheck[i];
            case 3: return inspector.message[i];
            case 4: return inspector.arose[i];
            default: return NOT_THERE;
        }
    }

    public int shown(int draft, int part) {
        Draft d = draftAt(draft);
        if (d == null || part < 0 || part >= d.form.parts) {
            return BAD;
        }
        if (worker.isFull()) {
            return FULL;
        }
        boolean isShown = inspector.showsAlone(d.form, d.answers, part);
        tell(NONE);
        return isShown ? 1 : 0;
    }

    public int figure(int draft, int figure) {
        Draft d = draftAt(draft);
        if (d == null || figure < 0 || figure >= d.form.figures) {
            return BAD;
        }
        if (worker.isFull()) {
            return FULL;
        }
        worker.begin(d.form, d.answers);
        long worth = worker.worthOf(figure, 0);
        int failure = worker.failure;
        if (failure == 0) {
            figureValue = worth;
        }
        tell(failure == 0 ? NONE : worker.arose);
        return failure;
    }

    public long value() {
        return figureValue;
    }

    public int told(int what) {
        return what < 0 || what >= toldOf.length ? BAD : toldOf[what];
    }

    // ---- filing

    public int submit(int draft, int day) {
        Draft d = draftAt(draft);
        if (d == null || day < 0 || day > MOST_DAY) {
            return BAD;
        }
        if (worker.isFull()) {
            return FULL;
        }
        if (d.receipt != NONE) {
            return STATE;
        }
        if (d.form.until != NONE && day > d.form.until) {
            return LATE;
        }
        int findings = inspector.inspect(d.form, d.answers);
        tell(NONE);
        if (findings > 0) {
            return -10 - findings;
        }
        filedCount++;
        d.receipt = filedCount;
        return filedCount;
    }

    public int receipt(int draft) {
        Draft d = draftAt(draft);
        return d == null ? BAD : d.receipt;
    }

    public int earlier(int a, int b) {
        Draft first = draftAt(a);
        Draft second = draftAt(b);
        if (first == null || second == null) {
            return BAD;
        }
        if (first.receipt == NONE || second.receipt == NONE) {
            return STATE;
        }
        return first.receipt <= second.receipt ? 0 : 1;
    }

    public int sign(int draft, int who) {
        Draft d = draftAt(draft);
        if (d == null || who < 0 || who >= d.form.signers) {
            return BAD;
        }
        if (d.receipt == NONE || who != d.signed) {
            return STATE;
        }
        d.signed++;
        return d.form.signers - d.signed;
    }

    public long stats(int form, int part, int what) {
        Form f = formAt(form);
        if (f == null || !f.isAnswered(part) || what < 0 || what > 2) {
            return NOT_THERE;
        }
        if (worker.isFull()) {
            return STATS_FULL;
        }
        long sum = 0;
        for (int i = 0; i < draftCount; i++) {
            Draft d = drafts[i];
            if (d != null && d.formNumber == form && d.receipt != NONE && d.answers[part] != null) {
                sum += what == 0 ? 1 : statOf(d, part, what);
            }
        }
        return sum;
    }

    // ---- moves

    public int move(int form, int part, int toForm, int toPart) {
        Form from = formAt(form);
        Form to = formAt(toForm);
        if (from == null || to == null || !from.isAnswered(part) || !to.isAnswered(toPart)) {
            return BAD;
        }
        if (moveCount >= MOST_MOVES) {
            return FULL;
        }
        int[] made = moves[moveCount];
        made[0] = form;
        made[1] = part;
        made[2] = toForm;
        made[3] = toPart;
        moveCount++;
        return moveCount - 1;
    }

    public int migrate(int draft, int form) {
        Draft d = draftAt(draft);
        if (d == null || formAt(form) == null) {
            return BAD;
        }
        if (worker.isFull() || draftCount >= MOST_DRAFTS) {
            return FULL;
        }
        Draft made = new Draft(form, forms[form]);
        Arrays.fill(came, NONE);
        for (int i = 0; i < moveCount; i++) {
            int[] m = moves[i];
            if (m[0] == d.formNumber && m[2] == form) {
                came[i] = carry(d.answers[m[1]], made, m[3]);
            }
        }
        return open(made);
    }

    public int cameOver(int move) {
        return move < 0 || move >= moveCount ? BAD : came[move];
    }

    // ---- the shortest filling

    public int shortest(int form, int work) {
        Form f = formAt(form);
        if (f == null || work < 1 || work > MOST_WORK || search.candidateParts(f) > MOST_TRIED) {
            return BAD;
        }
        if (worker.isFull()) {
            return FULL;
        }
        if (!search.goesOn || search.formNumber != form) {
            search.begin(form, f);
        }
        return search.tryUpTo(work);
    }

    public int proof(int m) {
        return m < 0 || m > MOST_TRIED ? BAD : search.tried[m];
    }

    public int keep() {
        if (!search.found) {
            return STATE;
        }
        if (draftCount >= MOST_DRAFTS || givingCount + search.m > MOST_GIVINGS) {
            return FULL;
        }
        Draft d = new Draft(search.formNumber, search.form);
        search.giveAll(d);
        givingCount += search.m;
        return open(d);
    }

    // ---- the disk

    public int export(int draft) {
        Draft d = draftAt(draft);
        if (d == null) {
            return BAD;
        }
        store.lay(d);
        return store.save() ? store.length : FULL;
    }

    public int disk(int i) {
        return i < 0 || i >= store.length ? BAD : store.bytes[i];
    }

    public int alter(int i, int bits) {
        if (i < 0 || i >= store.length || bits < 0 || bits > 255) {
            return BAD;
        }
        store.bytes[i] ^= bits;
        return store.bytes[i];
    }

    public int cutDisk(int n) {
        if (n < 0 || n > store.length) {
            return BAD;
        }
        int gone = store.length - n;
        store.length = n;
        return gone;
    }

    public int take(int form) {
        if (formAt(form) == null) {
            return BAD;
        }
        if (draftCount >= MOST_DRAFTS) {
            return FULL;
        }
        Draft d = new Draft(form, forms[form]);
        int wrong = store.load(d);
        return wrong != NONE ? -10 - wrong : open(d);
    }

    public int count(int what) {
        switch (what) {
            case 0: return formCount;
            case 1: return ledger.count;
            case 2: return draftCount;
            case 3: return filedCount;
            case 4: return moveCount;
            case 5: return tape.length;
            case 6: return store.length;
            case 7: return worker.failures;
            case 8: return givingCount;
            default: return BAD;
        }
    }

    // ---- what the calls share

    private Form formAt(int i) {
        return i < 0 || i >= formCount ? null : forms[i];
    }

    private Draft draftAt(int i) {
        return i < 0 || i >= draftCount ? null : drafts[i];
    }

    private Obj answerOf(int draft, int part) {
        Draft d = draftAt(draft);
        return d == null || !d.form.isAnswered(part) ? null : d.answers[part];
    }

    /** The caller has seen that there is room for one draft more. */
    private int open(Draft d) {
        drafts[draftCount] = d;
        draftCount++;
        return draftCount - 1;
    }

    private int fails(int kind) {
        worker.fail(kind);
        return -10 - kind;
    }

    private int deskFailure(int i, int sort) {
        if (held == null) {
            return NULL;
        }
        if (!held.isOf(sort)) {
            return CAST;
        }
        return held.holds(i) ? 0 : INDEX;
    }

    private void tell(int arose) {
        toldOf[0] = worker.worked;
        toldOf[1] = worker.ended;
        toldOf[2] = worker.elses;
        toldOf[3] = arose;
    }

    private long statOf(Draft d, int part, int what) {
        worker.begin(d.form, d.answers);
        long worth = worker.ask(DO_NAME, part);
        if (worker.failure != 0) {
            return what == 2 ? 1 : 0;
        }
        return what == 1 ? worth : 0;
    }

    /** Brings one answer over: how many items came. Answers never change, so most can be shared. */
    private int carry(Obj answer, Draft to, int part) {
        if (answer == null) {
            to.answers[part] = null;
            return 0;
        }
        int kind = to.form.kind[part];
        if (answer.sort == ENTRIES && kind == SIGNED) {
            return carrySigned(answer, to, part);
        }
        to.answers[part] = answer.sort == SIGNEDS && kind == LIST ? answer.copyAs(ENTRIES, answer.size) : answer;
        return answer.size;
    }

    private int carrySigned(Obj answer, Draft to, int part) {
        int ahead = 0;
        while (ahead < answer.size && (answer.items[ahead] == NONE || ledger.isSigned(answer.items[ahead]))) {
            ahead++;
        }
        if (ahead < answer.size) {
            worker.fail(STORE);
        }
        to.answers[part] = answer.copyAs(SIGNEDS, ahead);
        return ahead;
    }

    /** An OBJECT: a row of items of a SORT. Truths are 1 or 0, an entry is its number, NOTHING among them NONE. */
    private static final class Obj {
        private int sort;
        private int size;
        private final long[] items;
        private final int[][] rows;

        private Obj(int sort, int size) {
            int length = Math.max(size, 0);
            this.sort = sort;
            this.size = length;
            items = new long[sort == ROWS ? 0 : length];
            rows = new int[sort == ROWS ? length : 0][];
            if (sort == ENTRIES || sort == SIGNEDS) {
                Arrays.fill(items, NONE);
            }
        }

        private boolean holds(int i) {
            return i >= 0 && i < size;
        }

        private boolean isOf(int wanted) {
            return sort == wanted || sort == SIGNEDS && wanted == ENTRIES;
        }

        /** Puts into an item what its SORT holds of a number; the caller has asked holds(), and it is no rows. */
        private void put(int i, long v) {
            switch (sort) {
                case TRUTHS: items[i] = v != 0 ? 1 : 0; break;
                case WHOLES: items[i] = (int) v; break;
                case LETTERS: items[i] = v & 0xFFFF; break;
                default: items[i] = v; break;
            }
        }

        /** A row of the same length, of entries or signeds; items from a place on are NOTHING. */
        private Obj copyAs(int wanted, int end) {
            Obj made = new Obj(wanted, size);
            System.arraycopy(items, 0, made.items, 0, Math.min(end, Math.min(items.length, made.items.length)));
            return made;
        }

        private int trues() {
            int n = 0;
            for (int i = 0; i < size && i < items.length; i++) {
                n += items[i] != 0 ? 1 : 0;
            }
            return n;
        }
    }

    /** The ENTRIES of the office. No call tells a label, so these are not kept. */
    private static final class Ledger {
        private final long[] amount = new long[MOST_ENTRIES];
        private final int[] signer = new int[MOST_ENTRIES];
        private int count;

        private int enter(long itsAmount, int itsSigner) {
            if (count >= MOST_ENTRIES) {
                return FULL;
            }
            amount[count] = itsAmount;
            signer[count] = itsSigner;
            count++;
            return count - 1;
        }

        private boolean holds(long i) {
            return i >= 0 && i < count;
        }

        private boolean isSigned(long i) {
            return holds(i) && signer[(int) i] != NONE;
        }
    }

    /** THE TAPE, and the tokens it is split into. */
    private static final class Tape {
        private final int[] bytes = new int[MOST_BYTES];
        private int length;
        private final long[] words = new long[WORD_COUNT];
        private final int[] kinds = new int[MOST_BYTES + 1];
        private final int[] places = new int[MOST_BYTES + 1];
        private final long[] values = new long[MOST_BYTES + 1];

        private Tape() {
            int word = 0;
            for (int i = 0; i < WORDS.length() && word < WORD_COUNT; i++) {
                if (WORDS.charAt(i) == ' ') {
                    word++;
                } else {
                    words[word] = words[word] << 8 | WORDS.charAt(i);
                }
            }
        }

        private boolean append(int n, long fed) {
            if (n > MOST_BYTES - length) {
                return false;
            }
            for (int i = 0; i < n; i++) {
                bytes[length + i] = (int) (fed >> 8 * i) & 255;
            }
            length += n;
            return true;
        }

        /** Splits the tape up to its END, or to the first token that is WRONG: no reader goes beyond these. */
        private void split() {
            int place = 0;
            for (int token = 0; token < kinds.length; token++) {
                place = behindBlanks(place);
                places[token] = place;
                place = splitOne(token, place);
                if (kinds[token] == END || kinds[token] == WRONG) {
                    return;
                }
            }
        }

        private int behindBlanks(int place) {
            int end = place;
            while (end < length && (bytes[end] == ' ' || bytes[end] == '\n')) {
                end++;
            }
            return end;
        }

        private int splitOne(int token, int place) {
            if (place >= length) {
                kinds[token] = END;
                return place;
            }
            int first = bytes[place];
            if (isLetter(first)) {
                return splitWord(token, place);
            }
            if (isDigit(first)) {
                return splitNumber(token, place);
            }
            kinds[token] = SIGNS.indexOf((char) first) >= 0 ? first : WRONG;
            return place + 1;
        }

        /** A word of 8 letters fits into a long, so words are compared as numbers. */
        private int splitWord(int token, int place) {
            long word = 0;
            int end = place;
            while (end < length && (isLetter(bytes[end]) || isDigit(bytes[end]))) {
                word = word << 8 | bytes[end];
                end++;
            }
            values[token] = word;
            kinds[token] = end - place > WORD_LETTERS ? WRONG : kindOfWord(word);
            return end;
        }

        private int splitNumber(int token, int place) {
            long number = 0;
            int end = place;
            while (end < length && isDigit(bytes[end])) {
                number = number * 10 + bytes[end] - '0';
                end++;
            }
            values[token] = number;
            kinds[token] = end - place > NUMBER_DIGITS ? WRONG : NUMBER;
            return end;
        }

        private int kindOfWord(long word) {
            for (int i = 0; i < WORD_COUNT; i++) {
                if (words[i] == word) {
                    return W_FORM + i;
                }
            }
            return NAME;
        }

        private static boolean isLetter(int b) {
            return b >= 'a' && b <= 'z';
        }

        private static boolean isDigit(int b) {
            return b >= '0' && b <= '9';
        }
    }

    /** A form as it was read: its parts, its rules, and the code of its exps. */
    private static final class Form {
        private int parts;
        private final int[] kind = new int[MOST_PARTS];
        private final int[] group = new int[MOST_PARTS];
        private final int[] must = new int[MOST_PARTS];
        private final int[] least = new int[MOST_PARTS];
        private final int[] most = new int[MOST_PARTS];
        /** How many ways a choice or a many has, how many columns a table. */
        private final int[] width = new int[MOST_PARTS];
        private final int[] when = new int[MOST_PARTS];
        private int figures;
        private final int[] figureAt = new int[MOST_FIGURES];
        private int checks;
        private final int[] message = new int[MOST_CHECKS];
        private final int[] checkAt = new int[MOST_CHECKS];
        private int nodes;
        private int until;
        private int signers;
        private final int[] doing = new int[MOST_CODE];
        private final int[] with = new int[MOST_CODE];
        private int codeLength;

        private void begin() {
            parts = 0;
            figures = 0;
            checks = 0;
            nodes = 0;
            until = NONE;
            signers = 0;
            codeLength = 0;
        }

        /** Whether there is such a part and it can have an answer. */
        private boolean isAnswered(int part) {
            return part >= 0 && part < parts && kind[part] != GROUP;
        }

        private int emit(int what, int argument) {
            int at = Math.min(codeLength, MOST_CODE - 1);
            doing[at] = what;
            with[at] = argument;
            codeLength = at + 1;
            return at;
        }
    }

    /** Reads the tape as a form. Behind THE FAULT it sees WRONG tokens alone, so that all it has begun comes to an end. */
    private static final class Reader {
        private final Tape tape;
        private Form form;
        private int at;
        private int fault;
        private final long[] partNames = new long[MOST_PARTS];
        private final long[] figureNames = new long[MOST_FIGURES];
        /** The names in exps, to be found when all parts are known: where, which, by what code, how many figures were told. */
        private int uses;
        private final int[] usePlace = new int[MOST_NODES];
        private final long[] useName = new long[MOST_NODES];
        private final int[] useCode = new int[MOST_NODES];
        private final int[] useTold = new int[MOST_NODES];

        private Reader(Tape tape) {
            this.tape = tape;
        }

        /** Reads into a form: the place of THE FAULT, or NONE. */
        private int read(Form into) {
            form = into;
            form.begin();
            at = 0;
            fault = NONE;
            uses = 0;
            tape.split();
            readHead();
            readParts();
            readRules();
            if (sees() != END) {
                refuse();
            }
            if (fault == NONE) {
                findNames();
            }
            return fault;
        }

        private int sees() {
            return fault == NONE ? tape.kinds[at] : WRONG;
        }

        private void next() {
            if (fault == NONE && tape.kinds[at] > WRONG && at + 1 < tape.kinds.length) {
                at++;
            }
        }

        private void refuse() {
            if (fault == NONE) {
                fault = tape.places[at];
            }
        }

        private void want(int token) {
            if (sees() == token) {
                next();
            } else {
                refuse();
            }
        }

        private int readNumber(int least, int most) {
            long number = tape.values[at];
            if (sees() != NUMBER || number < least || number > most) {
                refuse();
                return least;
            }
            next();
            return (int) number;
        }

        private void readHead() {
            want(W_FORM);
            want(';');
            if (sees() == W_UNTIL) {
                next();
                form.until = readNumber(0, MOST_DAY);
                want(';');
            }
            if (sees() == W_SIGNERS) {
                next();
                form.signers = readNumber(0, 5);
                want(';');
            }
        }

        /** Groups that are not ended are kept by their own row: the group of the inmost one is the next around it. */
        private void readParts() {
            int group = NONE;
            int inside = 0;
            for (int i = 0; i <= 2 * MOST_PARTS && (seesPart() || inside > 0 && sees() == '}'); i++) {
                if (sees() == '}') {
                    next();
                    group = form.group[group];
                    inside--;
                } else if (sees() == W_GROUP) {
                    enter(inside);
                    next();
                    group = readNewPart(GROUP, group, 0);
                    inside++;
                    readWhen(group, inside);
                    want('{');
                } else {
                    int part = readPlain(group);
                    readWhen(part, inside);
                    want(';');
                }
            }
            if (inside > 0) {
                refuse();
            }
        }

        private boolean seesPart() {
            return sees() == W_MUST || sees() == W_GROUP || seesKind();
        }

        private boolean seesKind() {
            return sees() >= W_YES && sees() <= W_YES + ENTRY;
        }

        /** A part that is no group, up to its condition. */
        private int readPlain(int group) {
            int must = sees() == W_MUST ? 1 : 0;
            if (must == 1) {
                next();
            }
            if (!seesKind()) {
                refuse();
                return 0;
            }
            int kind = sees() - W_YES;
            next();
            int part = readNewPart(kind, group, must);
            if (fault == NONE) {
                readBounds(part, kind);
            }
            return part;
        }

        /** Refuses a group, ( [ - "not" "try" that lies in as many as may be. */
        private void enter(int inside) {
            if (inside >= MOST_DEPTH) {
                refuse();
            }
        }

        private int readNewPart(int kind, int group, int must) {
            int part = form.parts;
            long name = readNewName(part < MOST_PARTS);
            if (fault != NONE) {
                return 0;
            }
            partNames[part] = name;
            form.kind[part] = kind;
            form.group[part] = group;
            form.must[part] = must;
            form.when[part] = NONE;
            form.parts++;
            return part;
        }

        private long readNewName(boolean hasRoom) {
            long name = tape.values[at];
            if (sees() != NAME || !hasRoom || find(partNames, form.parts, name) != NONE
                    || find(figureNames, form.figures, name) != NONE) {
                refuse();
                return 0;
            }
            next();
            return name;
        }

        private static int find(long[] names, int count, long name) {
            for (int i = 0; i < count && i < names.length; i++) {
                if (names[i] == name) {
                    return i;
                }
            }
            return NONE;
        }

        private void readBounds(int part, int kind) {
            int width = 0;
            int least = 0;
            int most = 1;
            switch (kind) {
                case WHOLE:
                    least = readNumber(0, MOST_NUMBER);
                    most = readNumber(least, MOST_NUMBER);
                    break;
                case MONEY:
                    most = readNumber(0, MOST_NUMBER);
                    break;
                case DATE:
                    least = readNumber(0, MOST_DAY);
                    most = readNumber(least, MOST_DAY);
                    break;
                case CHOICE:
                    width = readNumber(2, 8);
                    most = width - 1;
                    break;
                case MANY:
                    width = readNumber(1, 8);
                    least = readNumber(0, width);
                    most = readNumber(least, width);
                    break;
                case TEXT:
                    most = readNumber(1, 24);
                    break;
                case TABLE:
                    width = readNumber(1, 4);
                    most = readNumber(1, 6);
                    break;
                case LIST:
                case SIGNED:
                    most = readNumber(1, 8);
                    break;
                default:
                    break;
            }
            form.width[part] = width;
            form.least[part] = least;
            form.most[part] = most;
        }

        private void readWhen(int part, int inside) {
            if (sees() == W_WHEN) {
                next();
                form.when[part] = readExp(inside);
            }
        }

        private void readRules() {
            for (int i = 0; i <= MOST_FIGURES + MOST_CHECKS && (sees() == W_FIGURE || sees() == W_CHECK); i++) {
                if (sees() == W_FIGURE) {
                    readFigure();
                } else {
                    readCheck();
                }
            }
        }

        private void readFigure() {
            next();
            int figure = form.figures;
            long name = readNewName(figure < MOST_FIGURES);
            want('=');
            int start = readExp(0);
            want(';');
            if (fault == NONE) {
                // Counted only here: the figure is not told ahead of its own exp.
                figureNames[figure] = name;
                form.figureAt[figure] = start;
                form.figures++;
            }
        }

        private void readCheck() {
            next();
            int check = form.checks;
            if (check >= MOST_CHECKS) {
                refuse();
            }
            int message = readNumber(0, MOST_NUMBER);
            int start = readExp(0);
            want(';');
            if (fault == NONE) {
                form.message[check] = message;
                form.checkAt[check] = start;
                form.checks++;
            }
        }

        private int readExp(int inside) {
            int start = form.codeLength;
            readLevel(0, inside);
            form.emit(DO_STOP, 0);
            return start;
        }

        /** Level 0 has "or", 1 "and", 2 comparisons (one at most), 3 sums, 4 products; below them is a one. */
        private void readLevel(int level, int inside) {
            if (level > 4) {
                readOne(inside);
                return;
            }
            readLevel(level + 1, inside);
            int most = level == 2 ? 1 : MOST_NODES + 1;
            for (int i = 0; i < most && levelOf(sees()) == level; i++) {
                int token = sees();
                node();
                next();
                int skip = level < 2 ? form.emit(token == W_OR ? DO_OR : DO_AND, 0) : NONE;
                readLevel(level + 1, inside);
                form.emit(doingOf(token), 0);
                if (skip != NONE) {
                    form.with[skip] = form.codeLength;
                }
            }
        }

        private static int levelOf(int token) {
            switch (token) {
                case W_OR: return 0;
                case W_AND: return 1;
                case '=': case '<': case '>': return 2;
                case '+': case '-': return 3;
                case '*': case '/': case '%': return 4;
                default: return NONE;
            }
        }

        private static int doingOf(int token) {
            switch (token) {
                case '=': return DO_EQUAL;
                case '<': return DO_LESS;
                case '>': return DO_MORE;
                case '+': return DO_ADD;
                case '-': return DO_SUBTRACT;
                case '*': return DO_MULTIPLY;
                case '/': return DO_DIVIDE;
                case '%': return DO_REST;
                default: return DO_TRUTH;
            }
        }

        private void node() {
            if (form.nodes >= MOST_NODES) {
                refuse();
            } else {
                form.nodes++;
            }
        }

        private void readOne(int inside) {
            int token = sees();
            if (token != '-' && token != W_NOT) {
                readBase(inside);
                return;
            }
            enter(inside);
            node();
            next();
            if (fault == NONE) {
                readOne(inside + 1);
            }
            form.emit(token == '-' ? DO_NEGATE : DO_NOT, 0);
        }

        private void readBase(int inside) {
            switch (sees()) {
                case NUMBER:
                    node();
                    form.emit(DO_NUMBER, (int) tape.values[at]);
                    next();
                    break;
                case NAME:
                    readNamed(inside);
                    break;
                case W_LEN:
                    readAsked(DO_LEN, inside);
                    break;
                case W_HAS:
                    readAsked(DO_HAS, inside);
                    break;
                case W_IS:
                    readAsked(DO_IS, inside);
                    break;
                case W_TOTAL:
                    readAsked(DO_TOTAL, inside);
                    break;
                case W_TRY:
                    readTry(inside);
                    break;
                case '(':
                    readBetween(inside);
                    want(')');
                    break;
                default:
                    refuse();
                    break;
            }
        }

        /** A name in an exp, a node already: the number of its use, to which its code is told later. */
        private int readUse(int told) {
            int use = Math.min(uses, MOST_NODES - 1);
            if (sees() == NAME) {
                usePlace[use] = tape.places[at];
                useName[use] = tape.values[at];
                useTold[use] = told;
                uses = use + 1;
                next();
            } else {
                refuse();
            }
            return use;
        }

        private void readNamed(int inside) {
            node();
            int use = readUse(form.figures);
            int doing = DO_NAME;
            if (sees() == '[') {
                useTold[use] = 0;
                readBetween(inside);
                doing = DO_ITEM;
                if (sees() == ',') {
                    next();
                    readLevel(0, inside + 1);
                    doing = DO_CELL;
                }
                want(']');
            }
            useCode[use] = form.emit(doing, 0);
        }

        /** What a word asks of a part: "len", "has", "is" a sort, "total" (of a column, too). */
        private void readAsked(int asked, int inside) {
            int doing = asked;
            node();
            next();
            int sort = asked == DO_IS ? readSort() : 0;
            node();
            int use = readUse(0);
            if (asked == DO_TOTAL && sees() == '[') {
                readBetween(inside);
                want(']');
                doing = DO_COLUMN;
            }
            useCode[use] = form.emit(doing, sort);
        }

        private int readSort() {
            int sort = sees() - W_TRUTHS;
            if (sort < TRUTHS || sort > ONE) {
                refuse();
                return 0;
            }
            next();
            return sort;
        }

        /** A ( or [ and the exp behind it. */
        private void readBetween(int inside) {
            enter(inside);
            next();
            if (fault == NONE) {
                readLevel(0, inside + 1);
            }
        }

        private void readTry(int inside) {
            enter(inside);
            node();
            next();
            if (fault != NONE) {
                return;
            }
            int start = form.emit(DO_TRY, 0);
            readOne(inside + 1);
            int end = form.emit(DO_TRIED, 0);
            form.with[start] = form.codeLength;
            want(W_ELSE);
            readOne(inside + 1);
            form.with[end] = form.codeLength;
        }

        private void findNames() {
            for (int i = 0; i < uses && fault == NONE; i++) {
                int figure = find(figureNames, useTold[i], useName[i]);
                int part = find(partNames, form.parts, useName[i]);
                int code = useCode[i];
                if (figure != NONE) {
                    form.doing[code] = DO_FIGURE;
                    form.with[code] = figure;
                } else if (part != NONE && form.isAnswered(part)) {
                    form.with[code] += part * 8;
                } else {
                    fault = usePlace[i];
                }
            }
        }
    }

    /** Works exps for the answers of a draft, and counts all FAILURES of the office. */
    private static final class Worker {
        private final Ledger ledger;
        private int failures;
        private Form form;
        private Obj[] answers;
        /** The FAILURE that is under way (0: none), and the figure in which it AROSE. */
        private int failure;
        private int arose;
        private int figureNow = NONE;
        private int worked;
        private int ended;
        private int elses;
        private final long[] stack = new long[MOST_CODE];
        private int top;
        private final int[] tryElse = new int[MOST_NODES];
        private final int[] tryTop = new int[MOST_NODES];
        private int tries;
        private final boolean[] isWorked = new boolean[MOST_FIGURES];
        private final long[] worth = new long[MOST_FIGURES];
        private final int[] itsFailure = new int[MOST_FIGURES];
        private final int[] itsArose = new int[MOST_FIGURES];

        private Worker(Ledger ledger) {
            this.ledger = ledger;
        }

        private boolean isFull() {
            return failures >= MOST_FAILURES;
        }

        private void fail(int kind) {
            failures++;
            failure = kind;
            arose = figureNow;
        }

        private void begin(Form itsForm, Obj[] itsAnswers) {
            form = itsForm;
            answers = itsAnswers;
            worked = 0;
            ended = 0;
            elses = 0;
            for (int i = 0; i < MOST_FIGURES; i++) {
                isWorked[i] = false;
            }
            failure = 0;
        }

        /** Works an exp; inside 0 figures it stands alone, and what failed ahead of it is over. All jumps go ahead. */
        private long work(int start, int inside) {
            if (inside == 0) {
                failure = 0;
            }
            int floor = top;
            int outerTries = tries;
            int at = start;
            for (int steps = 0; steps < MOST_CODE && at < form.codeLength && form.doing[at] != DO_STOP; steps++) {
                at = step(at, inside);
                if (failure != 0 && tries == outerTries) {
                    top = floor;
                    return 0;
                }
                if (failure != 0) {
                    at = takeElse();
                }
            }
            return pop();
        }

        private int step(int at, int inside) {
            int doing = form.doing[at];
            int with = form.with[at];
            switch (doing) {
                case DO_NUMBER:
                    push(with);
                    return at + 1;
                case DO_FIGURE:
                    push(worthOf(with, inside));
                    return at + 1;
                case DO_OR:
                case DO_AND:
                    return decide(doing == DO_OR, at, with);
                case DO_TRY:
                    beginTry(with);
                    return at + 1;
                case DO_TRIED:
                    tries--;
                    return with;
                case DO_HAS:
                    push(answers[with >> 3] != null ? 1 : 0);
                    return at + 1;
                case DO_IS:
                    push(isOfSort(answers[with >> 3], with & 7) ? 1 : 0);
                    return at + 1;
                default:
                    push(doing < DO_TRUTH ? ask(doing, with >> 3) : reckon(doing));
                    return at + 1;
            }
        }

        private void push(long v) {
            if (top < stack.length) {
                stack[top] = v;
                top++;
            }
        }

        private long pop() {
            if (top <= 0) {
                return 0;
            }
            top--;
            return stack[top];
        }

        /** The left one is on the stack: goes behind the right one if it tells already, else into that. */
        private int decide(boolean isOr, int at, int behind) {
            boolean isTrue = pop() != 0;
            if (isTrue != isOr) {
                return at + 1;
            }
            push(isTrue ? 1 : 0);
            return behind;
        }

        private void beginTry(int itsElse) {
            if (tries < tryElse.length) {
                tryElse[tries] = itsElse;
                tryTop[tries] = top;
                tries++;
            }
        }

        private int takeElse() {
            tries--;
            top = tryTop[tries];
            failure = 0;
            elses++;
            return tryElse[tries];
        }

        private long worthOf(int figure, int inside) {
            if (isWorked[figure] || inside >= MOST_FIGURES) {
                failure = itsFailure[figure];
                arose = itsArose[figure];
                return worth[figure];
            }
            int outer = figureNow;
            figureNow = figure;
            worked++;
            worth[figure] = work(form.figureAt[figure], inside + 1);
            ended++;
            figureNow = outer;
            isWorked[figure] = true;
            itsFailure[figure] = failure;
            itsArose[figure] = arose;
            return worth[figure];
        }

        private static boolean isOfSort(Obj answer, int sort) {
            return answer != null && answer.isOf(sort);
        }

        /** Asks an answer for what a name stands for. Helpers only set the failure; it is counted here, once. */
        private long ask(int doing, int part) {
            int column = doing == DO_CELL ? (int) pop() : 0;
            int place = doing >= DO_ITEM ? (int) pop() : 0;
            int kind = form.kind[part];
            Obj answer = answers[part];
            long got = 0;
            if (answer == null) {
                failure = NULL;
            } else if (!answer.isOf(wanted(doing, kind))) {
                failure = CAST;
            } else {
                switch (doing) {
                    case DO_LEN: got = answer.size; break;
                    case DO_TOTAL: got = totalOf(answer); break;
                    case DO_ITEM: got = worthAt(answer, place); break;
                    case DO_COLUMN: got = columnOf(answer, place); break;
                    case DO_CELL: got = cellAt(answer, place, column); break;
                    default: got = nameOf(answer, kind); break;
                }
            }
            if (failure != 0) {
                fail(failure);
            }
            return got;
        }

        private static int wanted(int doing, int kind) {
            if (doing == DO_CELL || doing == DO_COLUMN) {
                return ROWS;
            }
            return doing == DO_NAME && kind == ENTRY ? ONE : AS[kind];
        }

        private long nameOf(Obj answer, int kind) {
            switch (kind) {
                case MANY: return answer.trues();
                case TEXT: case TABLE: case LIST: case SIGNED: return answer.size;
                default: return worthAt(answer, 0);
            }
        }

        /** An item as a number: of rows how long that row is, of entries the amount. */
        private long worthAt(Obj answer, int i) {
            if (i < 0 || i >= answer.size) {
                failure = INDEX;
                return 0;
            }
            if (answer.sort < ROWS) {
                return answer.items[i];
            }
            if (answer.sort == ROWS) {
                failure = answer.rows[i] == null ? NULL : 0;
                return answer.rows[i] == null ? 0 : answer.rows[i].length;
            }
            long entry = answer.items[i];
            if (entry < 0 || entry >= ledger.count) {
                failure = NULL;
                return 0;
            }
            return ledger.amount[(int) entry];
        }

        private long cellAt(Obj answer, int i, int j) {
            if (i < 0 || i >= answer.size) {
                failure = INDEX;
                return 0;
            }
            int[] row = answer.rows[i];
            if (row == null) {
                failure = NULL;
                return 0;
            }
            if (j < 0 || j >= row.length) {
                failure = INDEX;
                return 0;
            }
            return row[j];
        }

        private long columnOf(Obj answer, int j) {
            long sum = 0;
            for (int i = 0; i < answer.size && failure == 0; i++) {
                sum += cellAt(answer, i, j);
            }
            return sum;
        }

        private long totalOf(Obj answer) {
            long sum = 0;
            for (int i = 0; i < answer.size && failure == 0; i++) {
                if (answer.sort != ROWS) {
                    sum += worthAt(answer, i);
                } else if (answer.rows[i] == null) {
                    failure = NULL;
                } else {
                    sum += sumOf(answer.rows[i]);
                }
            }
            return sum;
        }

        private static long sumOf(int[] row) {
            long sum = 0;
            for (int i = 0; i < row.length; i++) {
                sum += row[i];
            }
            return sum;
        }

        private long reckon(int doing) {
            long right = pop();
            switch (doing) {
                case DO_TRUTH: return right != 0 ? 1 : 0;
                case DO_NEGATE: return -right;
                case DO_NOT: return right == 0 ? 1 : 0;
                default: break;
            }
            long left = pop();
            switch (doing) {
                case DO_EQUAL: return left == right ? 1 : 0;
                case DO_LESS: return left < right ? 1 : 0;
                case DO_MORE: return left > right ? 1 : 0;
                case DO_ADD: return left + right;
                case DO_SUBTRACT: return left - right;
                case DO_MULTIPLY: return left * right;
                default: break;
            }
            if (right == 0) {
                fail(DIVIDE);
                return 0;
            }
            return doing == DO_DIVIDE ? left / right : left % right;
        }
    }

    /** Looks through the answers of a draft: its FINDINGS, and what is SHOWN. */
    private static final class Inspector {
        private final Worker worker;
        private int findings;
        private final int[] what = new int[MOST_PARTS + MOST_CHECKS];
        private final int[] ofPart = new int[MOST_PARTS + MOST_CHECKS];
        private final int[] ofCheck = new int[MOST_PARTS + MOST_CHECKS];
        private final int[] message = new int[MOST_PARTS + MOST_CHECKS];
        private final int[] arose = new int[MOST_PARTS + MOST_CHECKS];
        private final boolean[] isShown = new boolean[MOST_PARTS];

        private Inspector(Worker worker) {
            this.worker = worker;
        }

        private int inspect(Form form, Obj[] answers) {
            findings = 0;
            worker.begin(form, answers);
            for (int p = 0; p < form.parts; p++) {
                worker.failure = 0;
                boolean isOpen = form.group[p] == NONE || isShown[form.group[p]];
                long condition = isOpen && form.when[p] != NONE ? worker.work(form.when[p], 0) : 1;
                isShown[p] = isOpen && worker.failure == 0 && condition != 0;
                if (worker.failure != 0) {
                    addOfPart(worker.failure, p);
                } else if (isShown[p] && form.kind[p] != GROUP) {
                    addOfPart(faultOf(form, p, answers[p]), p);
                }
            }
            for (int c = 0; c < form.checks; c++) {
                long worth = worker.work(form.checkAt[c], 0);
                if (worker.failure != 0) {
                    add(worker.failure, NONE, c, form.message[c], worker.arose);
                } else if (worth == 0) {
                    add(FALSE, NONE, c, form.message[c], NONE);
                }
            }
            return findings;
        }

        private void addOfPart(int kind, int part) {
            if (kind != 0) {
                add(kind, part, NONE, 0, NONE);
            }
        }

        private void add(int kind, int part, int check, int itsMessage, int itsArose) {
            if (findings < what.length) {
                what[findings] = kind;
                ofPart[findings] = part;
                ofCheck[findings] = check;
                message[findings] = itsMessage;
                arose[findings] = itsArose;
                findings++;
            }
        }

        /** Groups have lesser numbers than what is in them, so the conditions come from outside on. */
        private boolean showsAlone(Form form, Obj[] answers, int part) {
            worker.begin(form, answers);
            for (int p = 0; p <= part; p++) {
                if (form.when[p] != NONE && isAround(form, p, part)
                        && (worker.work(form.when[p], 0) == 0 || worker.failure != 0)) {
                    return false;
                }
            }
            return true;
        }

        /** Whether a part is another one, or a group around it. */
        private static boolean isAround(Form form, int outer, int part) {
            int p = part;
            for (int i = 0; i < MOST_PARTS && p != NONE && p != outer; i++) {
                p = form.group[p];
            }
            return p == outer;
        }

        /** What is to be found at the answer of a part that is shown: 0 if nothing. */
        private int faultOf(Form form, int part, Obj answer) {
            if (answer == null) {
                return form.must[part] == 1 ? LACK : 0;
            }
            int kind = form.kind[part];
            if (!answer.isOf(kind == ENTRY ? ONE : AS[kind])) {
                return failing(CAST);
            }
            switch (kind) {
                case MANY: return faultOfMany(form, part, answer);
                case TEXT: return faultOfText(answer, form.most[part]);
                case TABLE: return faultOfTable(form, part, answer);
                case LIST: case SIGNED: return faultOfEntries(answer, form.most[part]);
                case ENTRY: return 0;
                default: return faultOfSingle(form, part, answer);
            }
        }

        private int failing(int kind) {
            worker.fail(kind);
            return kind;
        }

        private int faultOfSingle(Form form, int part, Obj answer) {
            if (!answer.holds(0)) {
                return failing(INDEX);
            }
            long v = answer.items[0];
            return answer.size != 1 || v < form.least[part] || v > form.most[part] ? RANGE : 0;
        }

        private int faultOfMany(Form form, int part, Obj answer) {
            int width = form.width[part];
            if (!answer.holds(width - 1)) {
                return failing(INDEX);
            }
            int trues = answer.trues();
            return answer.size > width || trues < form.least[part] || trues > form.most[part] ? RANGE : 0;
        }

        private static int faultOfText(Obj answer, int most) {
            if (answer.size == 0 || answer.size > most) {
                return RANGE;
            }
            for (int i = 0; i < answer.size; i++) {
                if (answer.items[i] < 32 || answer.items[i] > 126) {
                    return RANGE;
                }
            }
            return 0;
        }

        private int faultOfTable(Form form, int part, Obj answer) {
            if (answer.size == 0 || answer.size > form.most[part]) {
                return RANGE;
            }
            for (int i = 0; i < answer.size; i++) {
                int[] row = answer.rows[i];
                if (row == null) {
                    return failing(NULL);
                }
                if (row.length < form.width[part]) {
                    return failing(INDEX);
                }
                if (row.length > form.width[part]) {
                    return RANGE;
                }
            }
            return 0;
        }

        /** What an entry has is asked for, so that none may be NOTHING. */
        private int faultOfEntries(Obj answer, int most) {
            if (answer.size > most) {
                return RANGE;
            }
            for (int i = 0; i < answer.size; i++) {
                if (answer.items[i] == NONE) {
                    return failing(NULL);
                }
            }
            return 0;
        }
    }

    /** A DRAFT of a form, with its answers. */
    private static final class Draft {
        private final int formNumber;
        private final Form form;
        private final Obj[] answers = new Obj[MOST_PARTS];
        private Giving latest;
        private int givings;
        private int receipt = NONE;
        private int signed;

        private Draft(int formNumber, Form form) {
            this.formNumber = formNumber;
            this.form = form;
        }

        private void put(int part, Obj answer) {
            latest = new Giving(part, answers[part], latest);
            givings++;
            answers[part] = answer;
        }

        /** Undoes the latest giving: its part. The caller has seen that there is one. */
        private int undo() {
            Giving undone = latest;
            answers[undone.part] = undone.before;
            latest = undone.earlierOne;
            givings--;
            return undone.part;
        }
    }

    /** A giving that is not undone, with what it took the place of. */
    private static final class Giving {
        private final int part;
        private final Obj before;
        private final Giving earlierOne;

        private Giving(int part, Obj before, Giving earlierOne) {
            this.part = part;
            this.before = before;
            this.earlierOne = earlierOne;
        }
    }

    /** SHORTEST: tries the fillings of a form in order. Its objects are used again for each filling. */
    private static final class Search {
        private final Inspector inspector;
        private int formNumber = NONE;
        private Form form;
        private boolean goesOn;
        private boolean found;
        /** The parts with candidates, and of the filling which of these it answers and by which candidates. */
        private final int[] places = new int[MOST_TRIED];
        private int placeCount;
        private int m;
        private final int[] set = new int[MOST_TRIED];
        private final int[] choice = new int[MOST_TRIED];
        private final int[] tried = new int[MOST_TRIED + 1];
        private final Obj[] answers = new Obj[MOST_PARTS];
        private final Obj[] slots = new Obj[MOST_TRIED];

        private Search(Worker worker) {
            inspector = new Inspector(worker);
            for (int i = 0; i < MOST_TRIED; i++) {
                slots[i] = new Obj(TRUTHS, MOST_CHOICES);
            }
        }

        private int candidateParts(Form f) {
            int n = 0;
            for (int p = 0; p < f.parts; p++) {
                n += f.kind[p] <= MANY ? 1 : 0;
            }
            return n;
        }

        private void begin(int number, Form f) {
            formNumber = number;
            form = f;
            found = false;
            placeCount = 0;
            for (int p = 0; p < f.parts && placeCount < MOST_TRIED; p++) {
                if (f.kind[p] <= MANY) {
                    places[placeCount] = p;
                    placeCount++;
                }
            }
            Arrays.fill(tried, 0);
            m = 0;
        }

        private int tryUpTo(int work) {
            for (int i = 0; i < work; i++) {
                if (inspector.worker.isFull()) {
                    return FULL;
                }
                tried[m]++;
                layOut();
                found = inspector.inspect(form, answers) == 0;
                goesOn = !found && advance();
                if (!goesOn) {
                    return found ? 100 + m : 1;
                }
            }
            return 2;
        }

        private void layOut() {
            for (int p = 0; p < MOST_PARTS; p++) {
                answers[p] = null;
            }
            for (int i = 0; i < m; i++) {
                int part = places[set[i]];
                Obj slot = slots[i];
                slot.sort = AS[form.kind[part]];
                fill(slot, part, choice[i]);
                answers[part] = slot;
            }
        }

        private void fill(Obj answer, int part, int chosen) {
            answer.size = sizeOf(part);
            long v = candidate(part, chosen);
            for (int i = 0; i < answer.size && i < answer.items.length; i++) {
                answer.put(i, v);
            }
        }

        private int sizeOf(int part) {
            return form.kind[part] == MANY ? form.width[part] : 1;
        }

        private long candidate(int part, int chosen) {
            switch (form.kind[part]) {
                case WHOLE: case MONEY: case DATE: return chosen == 0 ? form.least[part] : form.most[part];
                default: return chosen;
            }
        }

        private int choicesOf(int part) {
            switch (form.kind[part]) {
                case WHOLE: case DATE: return form.least[part] == form.most[part] ? 1 : 2;
                case CHOICE: return form.width[part];
                default: return 2;
            }
        }

        /** Goes on to the next filling: whether there is one. */
        private boolean advance() {
            for (int i = m - 1; i >= 0; i--) {
                if (choice[i] + 1 < choicesOf(places[set[i]])) {
                    choice[i]++;
                    return true;
                }
                choice[i] = 0;
            }
            return nextSet() || firstSet();
        }

        private boolean nextSet() {
            for (int i = m - 1; i >= 0; i--) {
                if (set[i] < placeCount - m + i) {
                    set[i]++;
                    for (int j = i + 1; j < m; j++) {
                        set[j] = set[j - 1] + 1;
                    }
                    return true;
                }
            }
            return false;
        }

        /** The first set of one part more. */
        private boolean firstSet() {
            if (m >= placeCount) {
                return false;
            }
            m++;
            for (int i = 0; i < m; i++) {
                set[i] = i;
                choice[i] = 0;
            }
            return true;
        }

        private void giveAll(Draft d) {
            for (int i = 0; i < m; i++) {
                int part = places[set[i]];
                Obj given = new Obj(AS[form.kind[part]], sizeOf(part));
                fill(given, part, choice[i]);
                d.put(part, given);
            }
        }
    }

    /** THE DISK, and a wider row on which drafts are laid out first. */
    private static final class Disk {
        private final Ledger ledger;
        private final int[] bytes = new int[MOST_DISK];
        private int length;
        private final int[] laid = new int[MOST_LAID];
        private int laidLength;
        private int at;
        private boolean isWrong;

        private Disk(Ledger ledger) {
            this.ledger = ledger;
        }

        private void lay(Draft d) {
            laidLength = 0;
            for (int p = 0; p < d.form.parts; p++) {
                if (d.answers[p] != null) {
                    layRow(p, d.answers[p]);
                }
            }
        }

        private void layRow(int part, Obj answer) {
            int start = laidLength;
            layNumber(part, 1);
            layNumber(answer.sort, 1);
            layNumber(answer.size, 1);
            for (int i = 0; i < answer.size; i++) {
                if (answer.sort == ROWS) {
                    layCells(answer.rows[i]);
                } else {
                    layItem(answer, i);
                }
            }
            layNumber(sum(laid, start, laidLength), 2);
        }

        private void layItem(Obj answer, int i) {
            long v = answer.items[i];
            boolean isSeat = answer.sort == ENTRIES || answer.sort == SIGNEDS;
            layNumber(!isSeat ? v : v == NONE ? 0 : v + 1, bytesOf(answer.sort));
        }

        private void layCells(int[] row) {
            if (row == null) {
                layNumber(NO_ROW, 1);
                return;
            }
            layNumber(row.length, 1);
            for (int j = 0; j < row.length; j++) {
                layNumber(row[j], 4);
            }
        }

        private void layNumber(long v, int width) {
            for (int i = width - 1; i >= 0; i--) {
                if (laidLength < laid.length) {
                    laid[laidLength] = (int) (v >> 8 * i) & 255;
                    laidLength++;
                }
            }
        }

        private static int bytesOf(int sort) {
            switch (sort) {
                case WHOLES: return 4;
                case MONEYS: return 8;
                case LETTERS: return 2;
                default: return 1;
            }
        }

        private static int sum(int[] row, int start, int end) {
            int sum = 0;
            for (int i = start; i < end && i < row.length; i++) {
                sum = sum * 31 + row[i] & 0xFFFF;
            }
            return sum;
        }

        private int hash() {
            int h = 17;
            for (int i = 0; i < laidLength; i++) {
                h = h * 31 + laid[i];
            }
            return h;
        }

        /** What was laid out becomes the disk, if there is room. */
        private boolean save() {
            if (laidLength > MOST_DISK) {
                return false;
            }
            System.arraycopy(laid, 0, bytes, 0, laidLength);
            length = laidLength;
            return true;
        }

        /** Takes the disk in: the first row that is wrong, or NONE. */
        private int load(Draft d) {
            at = 0;
            isWrong = false;
            int before = -1;
            for (int row = 0; row < MOST_DISK && at < length; row++) {
                int start = at;
                int part = loadNumber(1);
                if (part <= before || !d.form.isAnswered(part)) {
                    return row;
                }
                Obj answer = loadObject();
                int due = sum(bytes, start, at);
                if (isWrong || loadNumber(2) != due || isWrong) {
                    return row;
                }
                d.answers[part] = answer;
                before = part;
            }
            return NONE;
        }

        private Obj loadObject() {
            int sort = loadNumber(1);
            int size = loadNumber(1);
            if (isWrong || sort > ONE || size > (sort == ROWS ? MOST_ROWS : MOST_ITEMS) || sort == ONE && size != 1) {
                isWrong = true;
                return null;
            }
            Obj made = new Obj(sort, size);
            for (int i = 0; i < size && !isWrong; i++) {
                if (sort == ROWS) {
                    made.rows[i] = loadCells();
                } else {
                    loadItem(made, i);
                }
            }
            return made;
        }

        private int[] loadCells() {
            int n = loadNumber(1);
            if (n == NO_ROW) {
                return null;
            }
            if (n > MOST_CELLS) {
                isWrong = true;
                return null;
            }
            int[] row = new int[n];
            for (int j = 0; j < n; j++) {
                row[j] = loadNumber(4);
            }
            return row;
        }

        private void loadItem(Obj made, int i) {
            long v = made.sort == MONEYS ? (long) loadNumber(4) << 32 | loadNumber(4) & 0xFFFFFFFFL
                : loadNumber(bytesOf(made.sort));
            if (made.sort == TRUTHS && v > 1 || made.sort == ONE && !ledger.holds(v)) {
                isWrong = true;
            }
            if (made.sort == ENTRIES || made.sort == SIGNEDS) {
                v = v == 0 ? NONE : v - 1;
                isWrong = isWrong || v != NONE && !(made.sort == ENTRIES ? ledger.holds(v) : ledger.isSigned(v));
            }
            made.put(i, v);
        }

        /** A number of up to 4 bytes; it is wrong to read behind the end. */
        private int loadNumber(int width) {
            int v = 0;
            for (int i = 0; i < width; i++) {
                if (at >= length) {
                    isWrong = true;
                    return 0;
                }
                v = v << 8 | bytes[at];
                at++;
            }
            return v;
        }
    }
}
