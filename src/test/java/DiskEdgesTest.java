import java.util.Arrays;

/** The edges that "7 THE DISK" and promises 38 to 43 name, sentence by sentence. */
public final class DiskEdgesTest {
    private static final Due due = new Due("DiskEdgesTest");
    private static final int NONE = FormMill.NONE, BAD = FormMill.BAD, FULL = FormMill.FULL, STATE = FormMill.STATE;

    public static void main(String[] args) {
        noAnswers();
        rowsOfEachSort();
        highestFirst();
        rowsOfNothing();
        numbersOfEntries();
        lowest16Bits();
        partsInOrder();
        upTo1200();
        bytes();
        bitsTurned();
        firstBytesStay();
        nothingToTakeIn();
        partAboveTheOneBefore();
        noGroupNoPart();
        sorts();
        sizes();
        rowsOfSix();
        truths();
        entriesThatThereAre();
        oneEntry();
        allBytesThere();
        sumRight();
        firstWrongRow();
        noGivings();
        takeMakesNone();
        counts();
        due.end();
    }

    /** Parts a 0, a group 1, b 2 in it, c 3, d 4; entries 0 (not SIGNED) and 1 (SIGNED). */
    private static FormMill office() {
        FormMill mill = Due.with("form; text a 1; group g { text b 1; } text c 1; text d 1;");
        mill.entry(1, 10, NONE);
        mill.entry(2, 20, 5);
        mill.draft(0);
        return mill;
    }

    private static int[] row(int... bytes) {
        int sum = 0;
        for (int b : bytes) {
            sum = sum * 31 + b & 0xFFFF;
        }
        int[] all = Arrays.copyOf(bytes, bytes.length + 2);
        all[bytes.length] = sum >> 8;
        all[bytes.length + 1] = sum & 255;
        return all;
    }

    private static int[] join(int[]... rows) {
        return Arrays.stream(rows).flatMapToInt(Arrays::stream).toArray();
    }

    private static void disk(FormMill mill, int... want) {
        due.is("export(0)", mill.export(0), want.length);
        due.is("count(6)", mill.count(6), want.length);
        for (int i = 0; i < want.length; i++) {
            due.is("disk(" + i + ") of " + Arrays.toString(want), mill.disk(i), want[i]);
        }
        due.is("disk(" + want.length + ")", mill.disk(want.length), BAD);
    }

    /** An office whose disk has these bytes: a longer one is cut and turned into them. */
    private static FormMill withDisk(int... bytes) {
        FormMill mill = office();
        for (int p : new int[] {0, 3, 4}) {
            mill.desk(2, 12);
            mill.give(0, p);
        }
        mill.export(0);
        mill.cutDisk(bytes.length);
        for (int i = 0; i < bytes.length; i++) {
            int turned = mill.disk(i) ^ bytes[i];
            if (turned != 0) {
                mill.alter(i, turned);
            }
        }
        return mill;
    }

    private static FormMill takes(String what, int want, int... bytes) {
        FormMill mill = withDisk(bytes);
        due.is("take(0) of " + what, mill.take(0), want);
        due.is("count(2) behind " + what, mill.count(2), want < 0 ? 1 : 2);
        return mill;
    }

    // ---- promise 38

    private static void noAnswers() {
        due.promise(38, "for each PART with an answer: none");
        FormMill mill = office();
        due.is("count(6) of a new office", mill.count(6), 0);
        disk(mill);
        mill.give(0, 0);
        disk(mill);
        due.is("export(1)", mill.export(1), BAD);
        due.is("export(-1)", mill.export(-1), BAD);
    }

    private static void rowsOfEachSort() {
        due.promise(38, "a row: PART, SORT, how many items (1 of one ENTRY), then items");
        for (int sort = 0; sort <= 6; sort++) {
            FormMill mill = office();
            mill.desk(sort, 0);
            mill.give(0, 4);
            disk(mill, row(4, sort, 0));
        }
        int[] widths = {1, 4, 8, 2, 1, 1, 1};
        for (int sort = 0; sort <= 6; sort++) {
            int n = sort == 4 ? 6 : 12;
            FormMill mill = office();
            mill.desk(sort, n);
            mill.give(0, 0);
            int[] bytes = new int[3 + n * widths[sort]];
            bytes[1] = sort;
            bytes[2] = n;
            if (sort == 4) {
                Arrays.fill(bytes, 3, bytes.length, 255);
            }
            disk(mill, row(bytes));
        }
        for (int e = 0; e < 2; e++) {
            FormMill mill = office();
            mill.desk(7, e);
            mill.give(0, 0);
            disk(mill, row(0, 7, 1, e));
        }
    }

    private static void highestFirst() {
        due.promise(38, "truths 0 or 1; wholes 4 bytes, moneys 8, letters 2, the highest first");
        FormMill truths = office();
        Due.give(truths, 0, 0, 0, 1, 0, -1);
        disk(truths, row(0, 0, 3, 1, 0, 1));
        FormMill wholes = office();
        Due.give(wholes, 0, 0, 1, 0x01020304, Integer.MIN_VALUE, Integer.MAX_VALUE, -1);
        disk(wholes, row(0, 1, 4, 1, 2, 3, 4, 128, 0, 0, 0, 127, 255, 255, 255, 255, 255, 255, 255));
        FormMill moneys = office();
        Due.give(moneys, 0, 0, 2, 0x0102030405060708L, Long.MIN_VALUE, Long.MAX_VALUE, -2);
        disk(moneys, row(0, 2, 4, 1, 2, 3, 4, 5, 6, 7, 8, 128, 0, 0, 0, 0, 0, 0, 0, 127, 255, 255, 255, 255, 255, 255, 255,
            255, 255, 255, 255, 255, 255, 255, 254));
        FormMill letters = office();
        Due.give(letters, 0, 0, 3, 0x0102, 65535, 0, 32768);
        disk(letters, row(0, 3, 4, 1, 2, 255, 255, 0, 0, 128, 0));
    }

    private static void rowsOfNothing() {
        due.promise(38, "of rows each: 255 for NOTHING, else how many, and these by 4");
        FormMill mill = office();
        Due.rows(mill, null, new int[0], new int[] {-1}, new int[] {1, 2, 3, 4, 5, Integer.MIN_VALUE}, null);
        mill.give(0, 0);
        disk(mill, row(0, 4, 5, 255, 0, 1, 255, 255, 255, 255, 6, 0, 0, 0, 1, 0, 0, 0, 2, 0, 0, 0, 3, 0, 0, 0, 4, 0, 0, 0, 5, 128, 0, 0, 0, 255));
    }

    private static void numbersOfEntries() {
        due.promise(38, "entries, signeds 1 more than the ENTRY's number, or 0; one: the number itself");
        FormMill mill = Office.entriesOf(office(), 99);
        mill.entry(1, 1, 1);
        Due.seats(mill, 5, 0, -1, 99, 1);
        mill.give(0, 0);
        disk(mill, row(0, 5, 4, 1, 0, 100, 2));
        Due.seats(mill, 6, 99, -1, 1);
        mill.give(0, 0);
        disk(mill, row(0, 6, 3, 100, 0, 2));
        mill.desk(7, 99);
        mill.give(0, 0);
        disk(mill, row(0, 7, 1, 99));
    }

    private static void lowest16Bits() {
        due.promise(38, "2 bytes of a sum: 0 at first, for each byte of the row so far 31 times it and the byte, the lowest 16 bits, the higher byte first");
        FormMill mill = office();
        Due.give(mill, 0, 0, 0);
        // 0, 0, 0 sum to 0.
        disk(mill, 0, 0, 0, 0, 0);
        Due.give(mill, 0, 0, 0, 1);
        // 1 * 31 + 1
        disk(mill, 0, 0, 1, 1, 0, 32);
        Due.give(mill, 0, 0, 3, 65535);
        // ((3 * 31 + 1) * 31 + 255) * 31 + 255 = 98494, less 65536 32958 = 128 * 256 + 190.
        disk(mill, 0, 3, 1, 255, 255, 128, 190);
        Due.give(mill, 0, 3, 0, 1);
        // Each row has its own sum: (3 * 31 * 31 + 1) * 31 + 1 = 89405, less 65536 23869 = 93 * 256 + 61.
        disk(mill, 0, 3, 1, 255, 255, 128, 190, 3, 0, 1, 1, 93, 61);
    }

    private static void partsInOrder() {
        due.promise(38, "for each PART with an answer, in order");
        FormMill mill = office();
        Due.give(mill, 0, 4, 0, 1);
        Due.give(mill, 0, 2, 0, 0);
        Due.give(mill, 0, 0, 3, 65);
        disk(mill, join(row(0, 3, 1, 0, 65), row(2, 0, 1, 0), row(4, 0, 1, 1)));
    }

    /** 11 rows of 12 moneys are 1111 bytes; a 12th one makes it up to 1200 or more. */
    private static FormMill large(int sort, int n) {
        StringBuilder text = new StringBuilder("form;");
        for (int p = 0; p < 12; p++) {
            text.append("text a").append(p).append(" 1;");
        }
        FormMill mill = Due.with(text.toString());
        mill.draft(0);
        for (int p = 0; p < 11; p++) {
            mill.desk(2, 12);
            mill.give(0, p);
        }
        mill.desk(sort, n);
        mill.give(0, 11);
        return mill;
    }

    private static void upTo1200() {
        due.promise(38, "THE DISK (1200 bytes); FULL: it would be more (THE DISK stays)");
        FormMill ahead = large(2, 10);
        due.is("export(0) of 1196", ahead.export(0), 1196);
        // A row of rows: 3, a row of 6 by 25, one of 5 by 21, ones of 4 by 17: 3 + 25 + 25 + 17 + 17 + 2 = 89.
        FormMill full = large(4, 4);
        full.desk(4, 4);
        full.line(0, 6);
        full.line(1, 6);
        full.line(2, 4);
        full.line(3, 4);
        full.give(0, 11);
        due.is("export(0) of 1200", full.export(0), 1200);
        due.is("disk(1199)", full.disk(1199) >= 0 ? 1 : 0, 1);
        due.is("disk(1200)", full.disk(1200), BAD);
        due.is("take(0)", full.take(0), 1);
        due.is("digest(1)", full.digest(1), full.digest(0));
        // One row more, of none, is one byte more.
        full.desk(4, 5);
        full.line(0, 6);
        full.line(1, 6);
        full.line(2, 4);
        full.line(3, 4);
        full.give(0, 11);
        due.is("export(0) of 1201", full.export(0), FULL);
        due.is("count(6)", full.count(6), 1200);
        due.is("the disk stays", full.take(0), 2);
        due.is("digest(2)", full.digest(2), full.digest(1));
        FormMill more = large(2, 12);
        due.is("export(0) of 1212", more.export(0), FULL);
        due.is("count(6)", more.count(6), 0);
        due.is("digest(0) of 1212", more.digest(0) != 0 ? 1 : 0, 1);
    }

    // ---- promises 39 to 41

    private static void bytes() {
        due.promise(39, "Byte i of THE DISK (0 .. 255). BAD.");
        FormMill mill = office();
        due.is("disk(0) of none", mill.disk(0), BAD);
        Due.give(mill, 0, 0, 1, -1);
        due.is("export(0)", mill.export(0), 9);
        due.is("disk(3)", mill.disk(3), 255);
        due.is("disk(0)", mill.disk(0), 0);
        due.is("disk(8)", mill.disk(8) >= 0 ? 1 : 0, 1);
        for (int i : new int[] {9, -1, 1199, Integer.MIN_VALUE, Integer.MAX_VALUE}) {
            due.is("disk(" + i + ")", mill.disk(i), BAD);
        }
        mill.cutDisk(3);
        due.is("disk(2)", mill.disk(2), 1);
        due.is("disk(3) that went", mill.disk(3), BAD);
    }

    private static void bitsTurned() {
        due.promise(40, "Byte i becomes itself with another one's bits (0 .. 255) turned: what it is then. BAD.");
        FormMill mill = office();
        due.is("alter(0, 0) of none", mill.alter(0, 0), BAD);
        Due.give(mill, 0, 0, 1, 0x0F);
        mill.export(0);
        int[] bits = {0, 1, 128, 255, 255, 0xF0};
        int now = 15;
        for (int b : bits) {
            now ^= b;
            due.is("alter(6, " + b + ")", mill.alter(6, b), now);
            due.is("disk(6)", mill.disk(6), now);
        }
        for (int b : new int[] {-1, 256, Integer.MIN_VALUE, Integer.MAX_VALUE}) {
            due.is("alter(6, " + b + ")", mill.alter(6, b), BAD);
        }
        for (int i : new int[] {-1, 9, Integer.MIN_VALUE, Integer.MAX_VALUE}) {
            due.is("alter(" + i + ", 1)", mill.alter(i, 1), BAD);
        }
        due.is("disk(6)", mill.disk(6), now);
        due.is("disk(5)", mill.disk(5), 0);
        due.is("alter(8, 0): the last one", mill.alter(8, 0), mill.disk(8));
        mill.cutDisk(8);
        due.is("alter(8, 0) that went", mill.alter(8, 0), BAD);
    }

    private static void firstBytesStay() {
        due.promise(41, "The first n bytes stay: how many went. BAD.");
        FormMill mill = office();
        due.is("cutDisk(0) of none", mill.cutDisk(0), 0);
        due.is("cutDisk(1) of none", mill.cutDisk(1), BAD);
        Due.give(mill, 0, 0, 1, 1, 2);
        due.is("export(0)", mill.export(0), 13);
        for (int n : new int[] {14, -1, 1200, Integer.MIN_VALUE, Integer.MAX_VALUE}) {
            due.is("cutDisk(" + n + ")", mill.cutDisk(n), BAD);
        }
        due.is("count(6)", mill.count(6), 13);
        due.is("cutDisk(13)", mill.cutDisk(13), 0);
        due.is("cutDisk(12)", mill.cutDisk(12), 1);
        due.is("cutDisk(13)", mill.cutDisk(13), BAD);
        due.is("cutDisk(2)", mill.cutDisk(2), 10);
        due.is("disk(1)", mill.disk(1), 1);
        due.is("cutDisk(0)", mill.cutDisk(0), 2);
        due.is("count(6)", mill.count(6), 0);
        due.is("disk(0)", mill.disk(0), BAD);
        due.is("export(0) anew", mill.export(0), 13);
    }

    // ---- TAKING IN

    private static void nothingToTakeIn() {
        due.promise(42, "rows from the beginning on, up to the end: none");
        FormMill mill = office();
        due.is("take(0)", mill.take(0), 1);
        due.is("digest(1)", mill.digest(1), 17);
        due.is("take(1)", mill.take(1), BAD);
        due.is("take(-1)", mill.take(-1), BAD);
    }

    private static void partAboveTheOneBefore() {
        due.promise(42, "its PART above that of the one before");
        takes("0, 2, 3, 4", 1, join(row(0, 0, 0), row(2, 0, 0), row(3, 0, 0), row(4, 0, 0)));
        takes("0, 0", -11, join(row(0, 0, 0), row(0, 0, 0)));
        takes("2, 0", -11, join(row(2, 0, 0), row(0, 0, 0)));
        takes("0, 3, 2", -12, join(row(0, 0, 0), row(3, 0, 0), row(2, 0, 0)));
        takes("0, 3, 4, 4", -13, join(row(0, 0, 0), row(3, 0, 0), row(4, 0, 0), row(4, 0, 0)));
    }

    private static void noGroupNoPart() {
        due.promise(42, "and no group");
        takes("a group", -10, row(1, 0, 0));
        takes("a group, later", -11, join(row(0, 0, 0), row(1, 0, 0)));
        takes("the last part", 1, row(4, 0, 0));
        takes("one more", -10, row(5, 0, 0));
        takes("20", -10, row(20, 0, 0));
        takes("255", -10, row(255, 0, 0));
        takes("one more, later", -12, join(row(0, 0, 0), row(4, 0, 0), row(5, 0, 0)));
    }

    private static void sorts() {
        due.promise(42, "SORT 0 to 7");
        for (int sort = 0; sort <= 6; sort++) {
            FormMill mill = takes("sort " + sort, 1, row(0, sort, 0));
            due.is("kindOf(1, 0)", mill.kindOf(1, 0), sort);
            due.is("item(1, 0, -1)", mill.item(1, 0, -1), 0);
        }
        due.is("kindOf(1, 0)", takes("sort 7", 1, row(0, 7, 1, 0)).kindOf(1, 0), 7);
        for (int sort : new int[] {8, 9, 127, 128, 255}) {
            takes("sort " + sort, -10, row(0, sort, 0));
            takes("sort " + sort + " of 1", -10, row(0, sort, 1, 0));
        }
    }

    private static void sizes() {
        due.promise(42, "not more than 12 items");
        int[] widths = {1, 4, 8, 2, 0, 1, 1};
        for (int sort : new int[] {0, 1, 2, 3, 5, 6}) {
            for (int n : new int[] {12, 13, 255}) {
                int[] bytes = new int[3 + n * widths[sort]];
                bytes[1] = sort;
                bytes[2] = n;
                if (bytes.length <= 290) {
                    FormMill mill = takes(n + " of sort " + sort, n == 12 ? 1 : -10, row(bytes));
                    due.is("item(1, 0, -1)", mill.item(1, 0, -1), n == 12 ? 12 : -100);
                }
            }
        }
    }

    private static void rowsOfSix() {
        due.promise(42, "(rows of 6, of 6 wholes each)");
        int[] six = {0, 4, 6, 255, 255, 255, 255, 255, 255};
        due.is("item(1, 0, 5)", takes("6 rows", 1, row(six)).item(1, 0, 5), NONE);
        takes("7 rows", -10, row(0, 4, 7, 255, 255, 255, 255, 255, 255, 255));
        takes("7 rows of none", -10, row(0, 4, 7, 0, 0, 0, 0, 0, 0, 0));
        for (int n : new int[] {0, 1, 6, 7, 8, 12}) {
            int[] bytes = new int[4 + 4 * n];
            bytes[1] = 4;
            bytes[2] = 1;
            bytes[3] = n;
            FormMill mill = takes("a row of " + n, n <= 6 ? 1 : -10, row(bytes));
            due.is("item(1, 0, 0)", mill.item(1, 0, 0), n <= 6 ? n : -100);
        }
        takes("a row of 254", -10, row(0, 4, 1, 254));
        due.is("a row of 255 is NOTHING", takes("a row of 255", 1, row(0, 4, 1, 255)).item(1, 0, 0), NONE);
        FormMill last = takes("rows, the last one too long", -10, row(0, 4, 2, 0, 7, 0, 0, 0, 0, 0, 0, 0, 0, 0, 0, 0, 0, 0, 0, 0, 0, 0, 0, 0, 0, 0, 0,
            0, 0, 0, 0, 0, 0));
        due.is("count(2)", last.count(2), 1);
        FormMill cells = takes("cells", 1, row(0, 4, 1, 2, 128, 0, 0, 0, 127, 255, 255, 255));
        due.is("cellOf(1, 0, 0, 0)", cells.cellOf(1, 0, 0, 0), Integer.MIN_VALUE);
        due.is("cellOf(1, 0, 0, 1)", cells.cellOf(1, 0, 0, 1), Integer.MAX_VALUE);
    }

    private static void truths() {
        due.promise(42, "truths 0 or 1");
        FormMill mill = takes("0, 1", 1, row(0, 0, 2, 0, 1));
        due.is("item(1, 0, 0)", mill.item(1, 0, 0), 0);
        due.is("item(1, 0, 1)", mill.item(1, 0, 1), 1);
        for (int truth : new int[] {2, 3, 128, 255}) {
            takes("a truth " + truth, -10, row(0, 0, 1, truth));
            takes("a last truth " + truth, -10, row(0, 0, 3, 0, 1, truth));
        }
        FormMill others = takes("any other number", 1, join(row(0, 1, 1, 255, 255, 255, 255), row(2, 2, 1, 128, 0, 0, 0, 0, 0, 0, 1), row(3, 3, 1, 255, 255)));
        due.is("item(1, 0, 0)", others.item(1, 0, 0), -1);
        due.is("item(1, 2, 0)", others.item(1, 2, 0), Long.MIN_VALUE + 1);
        due.is("item(1, 3, 0)", others.item(1, 3, 0), 65535);
    }

    private static void entriesThatThereAre() {
        due.promise(42, "ENTRIES that there are (SIGNED ones for signeds)");
        FormMill mill = takes("entries 0, 1, NOTHING", 1, row(0, 5, 3, 1, 2, 0));
        due.is("item(1, 0, 0)", mill.item(1, 0, 0), 0);
        due.is("item(1, 0, 1)", mill.item(1, 0, 1), 1);
        due.is("item(1, 0, 2)", mill.item(1, 0, 2), NONE);
        takes("an entry 2", -10, row(0, 5, 1, 3));
        takes("a last entry 2", -10, row(0, 5, 3, 1, 0, 3));
        takes("an entry 254", -10, row(0, 5, 1, 255));
        FormMill signeds = takes("signeds 1, NOTHING", 1, row(0, 6, 2, 2, 0));
        due.is("kindOf(1, 0)", signeds.kindOf(1, 0), 6);
        due.is("item(1, 0, 0)", signeds.item(1, 0, 0), 1);
        takes("a signed 0, that is not", -10, row(0, 6, 1, 1));
        takes("a last signed 0, that is not", -10, row(0, 6, 3, 2, 0, 1));
        takes("a signed 2", -10, row(0, 6, 1, 3));
        takes("a signed 254", -10, row(0, 6, 1, 255));
        due.promise(42, "an ENTRY that comes later is there then");
        FormMill later = withDisk(row(0, 5, 1, 3));
        due.is("take(0)", later.take(0), -10);
        later.entry(1, 1, NONE);
        due.is("take(0)", later.take(0), 1);
        FormMill none = Due.with("form; text a 1;");
        none.draft(0);
        none.desk(5, 1);
        none.give(0, 0);
        none.export(0);
        due.is("take(0) of NOTHINGs without any ENTRY", none.take(0), 1);
        none.alter(3, 1);
        none.alter(5, 1);
        due.is("take(0) of an ENTRY without any", none.take(0), -10);
    }

    private static void oneEntry() {
        due.promise(42, "one: the number itself; 1 item");
        due.is("item(1, 0, 0)", takes("one 0", 1, row(0, 7, 1, 0)).item(1, 0, 0), 0);
        due.is("item(1, 0, 0)", takes("one 1", 1, row(0, 7, 1, 1)).item(1, 0, 0), 1);
        takes("one 2", -10, row(0, 7, 1, 2));
        takes("one 255", -10, row(0, 7, 1, 255));
        takes("one of no items", -10, row(0, 7, 0));
        takes("one of two items", -10, row(0, 7, 2, 0, 0));
        takes("one of 12 items", -10, row(0, 7, 12, 0, 0, 0, 0, 0, 0, 0, 0, 0, 0, 0, 0));
    }

    private static void allBytesThere() {
        due.promise(42, "all bytes there");
        int[][] rows = {row(0, 0, 2, 1, 0), row(0, 1, 2, 1, 2, 3, 4, 5, 6, 7, 8), row(0, 2, 1, 1, 2, 3, 4, 5, 6, 7, 8), row(0, 3, 2, 1, 2, 3, 4),
            row(0, 4, 2, 255, 1, 0, 0, 0, 9), row(0, 5, 2, 1, 2), row(0, 6, 1, 2), row(0, 7, 1, 1), row(0, 0, 0)};
        for (int[] all : rows) {
            takes("a whole row", 1, all);
            for (int n = 1; n < all.length; n++) {
                takes("the first " + n + " bytes of " + all.length, -10, Arrays.copyOf(all, n));
            }
            for (int n = 1; n < all.length; n++) {
                int[] second = all.clone();
                second[0] = 3;
                int[] right = row(Arrays.copyOf(second, second.length - 2));
                takes("a second row's first " + n + " bytes", -11, join(all, Arrays.copyOf(right, n)));
            }
        }
    }

    private static void sumRight() {
        due.promise(42, "the sum right");
        int[] right = row(0, 1, 1, 9, 9, 9, 9);
        for (int i = 3; i < right.length; i++) {
            for (int bit = 0; bit < 8; bit++) {
                int[] turned = right.clone();
                turned[i] ^= 1 << bit;
                takes("byte " + i + ", bit " + bit, -10, turned);
            }
        }
        int[] second = join(right, row(3, 0, 1, 1));
        takes("two rows", 1, second);
        second[second.length - 1] ^= 1;
        takes("two rows, the second sum wrong", -11, second);
        int[] swapped = row(0, 3, 1, 255, 255);
        int high = swapped[5];
        swapped[5] = swapped[6];
        swapped[6] = high;
        takes("the lower byte first", -10, swapped);
    }

    private static void firstWrongRow() {
        due.promise(42, "-10 less the number of the first row that is wrong");
        int[][] good = {row(0, 0, 1, 1), row(2, 3, 1, 0, 65), row(3, 1, 0), row(4, 7, 1, 1)};
        for (int wrong = 0; wrong <= 4; wrong++) {
            int[][] rows = new int[4][];
            for (int i = 0; i < 4; i++) {
                rows[i] = good[i].clone();
                if (i >= wrong) {
                    rows[i][rows[i].length - 1] ^= 1;
                }
            }
            takes("rows from " + wrong + " on wrong", wrong == 4 ? 1 : -10 - wrong, join(rows));
        }
    }

    private static void noGivings() {
        due.promise(42, "(no givings)");
        FormMill mill = takes("a row", 1, row(0, 0, 1, 1));
        int ever = mill.count(8);
        due.is("takeBack(1)", mill.takeBack(1), STATE);
        due.is("give(1, 0)", mill.give(1, 0), 1);
        due.is("takeBack(1)", mill.takeBack(1), 0);
        due.is("kindOf(1, 0)", mill.kindOf(1, 0), 0);
        due.is("count(8)", mill.count(8), ever + 1);
        due.is("receipt(1)", mill.receipt(1), NONE);
    }

    private static void takeMakesNone() {
        due.promise(42, "a wrong row makes no DRAFT, and the disk stays");
        FormMill mill = takes("a second row wrong", -11, join(row(0, 0, 1, 1), row(3, 9, 0)));
        due.is("draft(0)", mill.draft(0), 1);
        due.is("kindOf(1, 0): nothing was taken in", mill.kindOf(1, 0), NONE);
        due.is("count(6)", mill.count(6), 11);
        mill.cutDisk(6);
        due.is("take(0)", mill.take(0), 2);
        due.is("kindOf(2, 0)", mill.kindOf(2, 0), 0);
        due.is("no FAILURES", mill.count(7), 0);
    }

    // ---- promise 43

    private static void counts() {
        due.promise(43, "How many: 0 forms, 1 ENTRIES, 2 DRAFTS, 3 FILED ones, 4 MOVES, 5 bytes of THE TAPE, 6 of THE DISK, 7 FAILURES, 8 givings. BAD.");
        FormMill mill = new FormMill();
        for (int what = 0; what <= 8; what++) {
            due.is("count(" + what + ") of a new office", mill.count(what), 0);
        }
        for (int what : new int[] {-1, 9, Integer.MIN_VALUE, Integer.MAX_VALUE}) {
            due.is("count(" + what + ")", mill.count(what), BAD);
        }
        FormMill full = Office.draftsOf(Office.movesOf(Office.entriesOf(Office.busy(), 100), 40), 30);
        int[] want = {3, 100, 30, 2, 40, 11};
        for (int what = 0; what < want.length; what++) {
            due.is("count(" + what + ")", full.count(what), want[what]);
        }
        full.entry(1, 1, 1);
        full.move(0, 0, 0, 0);
        full.draft(0);
        full.submit(0, 0);
        full.form();
        want[5] = 0;
        for (int what = 0; what < want.length; what++) {
            due.is("count(" + what + ") behind what was refused", full.count(what), want[what]);
        }
    }
}
