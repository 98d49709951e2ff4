import java.util.Arrays;

/** Promises 38 to 43: the disk, and how many there are of all. */
public final class DiskTest {
    private static final Due due = new Due("DiskTest");
    private static final int NONE = FormMill.NONE;

    public static void main(String[] args) {
        export();
        exportRows();
        exportFull();
        disk();
        alter();
        cutDisk();
        take();
        takeEachSort();
        takeWrong();
        takeEdges();
        takeTurned();
        takeFull();
        count();
        due.end();
    }

    /** Form 0 has 4 texts and a group; entry 0 is not signed, entry 1 is; draft 0. */
    private static FormMill office() {
        FormMill mill = Due.with("form; text a 1; group g { text b 1; } text c 1; text d 1;");
        mill.entry(1, 10, NONE);
        mill.entry(2, 20, 5);
        mill.draft(0);
        return mill;
    }

    /** A row as it is due, with its sum. */
    private static int[] row(int... bytes) {
        int[] all = Arrays.copyOf(bytes, bytes.length + 2);
        int sum = 0;
        for (int b : bytes) {
            sum = sum * 31 + b & 0xFFFF;
        }
        all[bytes.length] = sum >> 8;
        all[bytes.length + 1] = sum & 255;
        return all;
    }

    private static int[] join(int[]... rows) {
        int[] all = new int[0];
        for (int[] r : rows) {
            int from = all.length;
            all = Arrays.copyOf(all, from + r.length);
            System.arraycopy(r, 0, all, from, r.length);
        }
        return all;
    }

    private static void exported(FormMill mill, int... bytes) {
        due.is("export(0)", mill.export(0), bytes.length);
        due.is("count(6)", mill.count(6), bytes.length);
        for (int i = 0; i < bytes.length; i++) {
            due.is("disk(" + i + ")", mill.disk(i), bytes[i]);
        }
        due.is("disk(behind)", mill.disk(bytes.length), FormMill.BAD);
    }

    private static void export() {
        due.promise(38, "export");
        FormMill mill = office();
        due.is("export(1)", mill.export(1), FormMill.BAD);
        due.is("export(-1)", mill.export(-1), FormMill.BAD);
        exported(mill);
        Due.give(mill, 0, 0, 0, 1, 0, 5);
        exported(mill, row(0, 0, 3, 1, 0, 1));
        Due.give(mill, 0, 0, 1, -2, 0x01020304);
        exported(mill, row(0, 1, 2, 255, 255, 255, 254, 1, 2, 3, 4));
        Due.give(mill, 0, 0, 2, 0x0102030405060708L, -1);
        exported(mill, row(0, 2, 2, 1, 2, 3, 4, 5, 6, 7, 8, 255, 255, 255, 255, 255, 255, 255, 255));
        Due.give(mill, 0, 0, 3, 65, 0xFFFE);
        exported(mill, row(0, 3, 2, 0, 65, 255, 254));
        Due.seats(mill, 5, 0, -1, 1);
        mill.give(0, 0);
        exported(mill, row(0, 5, 3, 1, 0, 2));
        Due.seats(mill, 6, 1, -1);
        mill.give(0, 0);
        exported(mill, row(0, 6, 2, 2, 0));
        mill.desk(7, 1);
        mill.give(0, 0);
        exported(mill, row(0, 7, 1, 1));
        mill.desk(1, 0);
        mill.give(0, 0);
        exported(mill, row(0, 1, 0));
    }

    private static void exportRows() {
        due.promise(38, "export: rows, several parts");
        FormMill mill = office();
        Due.rows(mill, new int[] {1, -1}, null, new int[0]);
        mill.give(0, 3);
        int[] table = row(3, 4, 3, 2, 0, 0, 0, 1, 255, 255, 255, 255, 255, 0);
        exported(mill, table);
        Due.give(mill, 0, 0, 0, 1);
        Due.give(mill, 0, 4, 3, 66);
        Due.give(mill, 0, 2, 1, 7);
        exported(mill, join(row(0, 0, 1, 1), row(2, 1, 1, 0, 0, 0, 7), table, row(4, 3, 1, 0, 66)));
        mill.give(0, 2);
        exported(mill, join(row(0, 0, 1, 1), table, row(4, 3, 1, 0, 66)));
        due.is("no failures", mill.count(7), 0);
    }

    private static String texts(int n) {
        StringBuilder all = new StringBuilder("form;");
        for (int i = 0; i < n; i++) {
            all.append("text a").append(i).append(" 1;");
        }
        return all.toString();
    }

    private static void exportFull() {
        due.promise(38, "export: FULL");
        FormMill mill = Due.with(texts(14));
        mill.draft(0);
        mill.draft(0);
        Due.give(mill, 1, 0, 0, 1);
        mill.export(1);
        // 11 rows of 12 moneys are 1111 bytes.
        for (int p = 0; p < 11; p++) {
            mill.desk(2, 12);
            mill.give(0, p);
        }
        due.is("export(0)", mill.export(0), 1111);
        mill.export(1);
        mill.desk(2, 10);
        mill.give(0, 11);
        due.is("export(0): 1196", mill.export(0), 1196);
        mill.export(1);
        mill.desk(0, 0);
        mill.give(0, 12);
        due.is("export(0): 1201", mill.export(0), FormMill.FULL);
        due.is("the disk stays", mill.count(6), 6);
        due.is("disk(3)", mill.disk(3), 1);
        mill.give(0, 12);
        mill.desk(2, 9);
        mill.give(0, 11);
        mill.desk(0, 7);
        mill.give(0, 12);
        due.is("export(0): 1200", mill.export(0), 1200);
        due.is("disk(1199)", mill.disk(1199) >= 0 ? 1 : 0, 1);
        due.is("disk(1200)", mill.disk(1200), FormMill.BAD);
        due.is("take(0)", mill.take(0), 2);
        due.is("digest(2)", mill.digest(2), mill.digest(0));
    }

    private static void disk() {
        due.promise(39, "disk");
        FormMill mill = office();
        due.is("disk(0) of an empty disk", mill.disk(0), FormMill.BAD);
        Due.give(mill, 0, 0, 1, -1);
        mill.export(0);
        due.is("disk(-1)", mill.disk(-1), FormMill.BAD);
        due.is("disk(3)", mill.disk(3), 255);
        due.is("disk(8)", mill.disk(8) >= 0 ? 1 : 0, 1);
        due.is("disk(9)", mill.disk(9), FormMill.BAD);
    }

    private static void alter() {
        due.promise(40, "alter");
        FormMill mill = office();
        due.is("alter(0, 1) of an empty disk", mill.alter(0, 1), FormMill.BAD);
        Due.give(mill, 0, 2, 1, 0xF0);
        mill.export(0);
        due.is("alter(-1, 1)", mill.alter(-1, 1), FormMill.BAD);
        due.is("alter(9, 1)", mill.alter(9, 1), FormMill.BAD);
        due.is("alter(6, -1)", mill.alter(6, -1), FormMill.BAD);
        due.is("alter(6, 256)", mill.alter(6, 256), FormMill.BAD);
        due.is("disk(6)", mill.disk(6), 0xF0);
        due.is("alter(6, 0)", mill.alter(6, 0), 0xF0);
        due.is("alter(6, 255)", mill.alter(6, 255), 0x0F);
        due.is("disk(6)", mill.disk(6), 0x0F);
        due.is("alter(6, 3)", mill.alter(6, 3), 0x0C);
        due.is("disk(5)", mill.disk(5), 0);
        due.is("the draft stays", mill.item(0, 2, 0), 0xF0);
    }

    private static void cutDisk() {
        due.promise(41, "cutDisk");
        FormMill mill = office();
        due.is("cutDisk(0)", mill.cutDisk(0), 0);
        due.is("cutDisk(1)", mill.cutDisk(1), FormMill.BAD);
        Due.give(mill, 0, 0, 1, 1);
        mill.export(0);
        due.is("cutDisk(-1)", mill.cutDisk(-1), FormMill.BAD);
        due.is("cutDisk(10)", mill.cutDisk(10), FormMill.BAD);
        due.is("cutDisk(9)", mill.cutDisk(9), 0);
        due.is("cutDisk(7)", mill.cutDisk(7), 2);
        due.is("count(6)", mill.count(6), 7);
        due.is("disk(6)", mill.disk(6), 1);
        due.is("disk(7)", mill.disk(7), FormMill.BAD);
        due.is("cutDisk(8)", mill.cutDisk(8), FormMill.BAD);
        due.is("cutDisk(0)", mill.cutDisk(0), 7);
        due.is("disk(0)", mill.disk(0), FormMill.BAD);
    }

    /** Makes the disk have other bytes, as long as it has enough, by turning bits. */
    private static void laid(FormMill mill, int... bytes) {
        for (int i = 0; i < bytes.length; i++) {
            mill.alter(i, mill.disk(i) ^ bytes[i]);
        }
        mill.cutDisk(bytes.length);
    }

    /** An office whose disk has zeros enough. */
    private static FormMill blank() {
        FormMill mill = office();
        mill.desk(2, 12);
        mill.give(0, 0);
        mill.desk(2, 12);
        mill.give(0, 2);
        mill.export(0);
        return mill;
    }

    private static void takes(String what, int answer, int... bytes) {
        FormMill mill = blank();
        laid(mill, bytes);
        due.is("take(0) of " + what, mill.take(0), answer);
        due.is("count(2)", mill.count(2), answer == 1 ? 2 : 1);
        if (answer == 1) {
            due.is("export(1) of " + what, mill.export(1), bytes.length);
            for (int i = 0; i < bytes.length; i++) {
                due.is("disk(" + i + ") of " + what, mill.disk(i), bytes[i]);
            }
        }
        due.is("no failures", mill.count(7), 0);
        due.is("no givings", mill.count(8), 2);
    }

    private static void take() {
        due.promise(42, "take");
        FormMill mill = office();
        due.is("take(1)", mill.take(1), FormMill.BAD);
        due.is("take(-1)", mill.take(-1), FormMill.BAD);
        due.is("take(0) of an empty disk", mill.take(0), 1);
        due.is("kindOf(1, 0)", mill.kindOf(1, 0), NONE);
        takes("a row", 1, row(0, 0, 1, 1));
        takes("rows", 1, join(row(0, 0, 0), row(2, 1, 1, 1, 2, 3, 4), row(3, 7, 1, 1), row(4, 3, 2, 0, 65, 255, 255)));
        takes("a part behind", 1, row(4, 0, 0));
        Due.form(mill, "form; yes a;");
        Due.give(mill, 0, 0, 4);
        mill.export(0);
        due.is("take(1): by another form", mill.take(1), 2);
        due.is("kindOf(2, 0)", mill.kindOf(2, 0), 4);
        Due.give(mill, 0, 2, 4);
        mill.export(0);
        due.is("take(1): it has no such part", mill.take(1), -11);
        due.is("submit(2, 0): it is looked at as any", mill.submit(2, 0), -11);
    }

    private static void takeEachSort() {
        due.promise(42, "take: sorts");
        FormMill mill = office();
        for (int sort = 0; sort <= 7; sort++) {
            mill.desk(sort, sort == 7 ? 1 : 3);
            mill.write(1, -3);
            mill.line(1, 2);
            mill.cell(1, 1, Integer.MIN_VALUE);
            mill.seat(1, 1);
            mill.give(0, sort % 2 == 0 ? 2 : 4);
            int bytes = mill.export(0);
            int made = mill.take(0);
            due.is("take(0)", made, sort + 1);
            due.is("digest()", mill.digest(made), mill.digest(0));
            due.is("export()", mill.export(made), bytes);
            due.is("givings of it", mill.give(made, 0), 1);
            due.is("kindOf()", mill.kindOf(made, sort % 2 == 0 ? 2 : 4), sort);
        }
    }

    private static void takeWrong() {
        due.promise(42, "take: wrong rows");
        takes("a group", -10, row(1, 0, 0));
        takes("no part", -10, row(5, 0, 0));
        takes("no part", -10, row(255, 0, 0));
        takes("a part again", -11, join(row(2, 0, 0), row(2, 0, 0)));
        takes("a part before", -11, join(row(2, 0, 0), row(0, 0, 0)));
        takes("the third row", -12, join(row(0, 0, 0), row(2, 0, 0), row(4, 8, 0)));
        takes("sort 8", -10, row(0, 8, 0));
        takes("sort 255", -10, row(0, 255, 0));
        takes("a truth 2", -10, row(0, 0, 2, 1, 2));
        takes("a truth 255", -10, row(0, 0, 1, 255));
        takes("13 truths", -10, row(0, 0, 13, 0, 0, 0, 0, 0, 0, 0, 0, 0, 0, 0, 0, 0));
        takes("255 truths", -10, row(0, 0, 255));
        takes("7 rows", -10, row(0, 4, 7, 255, 255, 255, 255, 255, 255, 255));
        takes("a row of 7", -10, row(0, 4, 1, 7, 0, 0, 0, 0, 0, 0, 0, 0, 0, 0, 0, 0, 0, 0, 0, 0, 0, 0, 0, 0, 0, 0, 0, 0, 0, 0, 0, 0));
        takes("a row of 254", -10, row(0, 4, 1, 254));
        takes("an entry 3", -10, row(0, 5, 1, 3));
        takes("a signed 3", -10, row(0, 6, 1, 3));
        takes("a signed that is not signed", -10, row(0, 6, 2, 2, 1));
        takes("one 2", -10, row(0, 7, 1, 2));
        takes("one of none", -10, row(0, 7, 0));
        takes("one of two", -10, row(0, 7, 2, 0, 0));
        int[] good = row(0, 1, 1, 1, 2, 3, 4);
        for (int n = 1; n < good.length; n++) {
            takes("the first " + n + " bytes", -10, Arrays.copyOf(good, n));
        }
        takes("a byte more", -11, join(good, new int[] {2}));
        takes("two bytes more", -11, join(good, new int[] {2, 0}));
        takes("three bytes more", -11, join(good, new int[] {2, 0, 0}));
        int[] early = {0, 4, 2, 255};
        takes("rows that end", -10, early);
        takes("rows that end in a row", -10, 0, 4, 1, 1, 0, 0);
    }

    private static void takeEdges() {
        due.promise(42, "take: edges");
        takes("12 truths", 1, row(0, 0, 12, 0, 1, 0, 0, 0, 0, 0, 0, 0, 0, 1, 1));
        takes("6 rows", 1, row(0, 4, 6, 255, 255, 0, 255, 1, 255, 0, 0, 1, 255));
        takes("a row of 6", 1, row(0, 4, 1, 6, 255, 255, 255, 255, 0, 0, 0, 0, 1, 2, 3, 4, 0, 0, 0, 0, 0, 0, 0, 0, 128, 0, 0, 0));
        takes("12 entries", 1, row(0, 5, 12, 0, 1, 2, 2, 1, 0, 0, 0, 0, 0, 0, 2));
        takes("signeds", 1, row(0, 6, 3, 2, 0, 2));
        takes("one 0", 1, row(0, 7, 1, 0));
        takes("moneys", 1, row(0, 2, 1, 128, 0, 0, 0, 255, 0, 0, 1));
        takes("letters", 1, row(0, 3, 2, 255, 255, 0, 1));
    }

    /** A bit that is turned is always found out where the sum or the form of the row tells. */
    private static void takeTurned() {
        due.promise(42, "take: bits turned");
        FormMill mill = office();
        Due.give(mill, 0, 0, 1, 77, -5);
        Due.give(mill, 0, 2, 3, 65, 66);
        int bytes = mill.export(0);
        for (int i = 0; i < bytes; i++) {
            mill.alter(i, 1 << i % 8);
            due.is("take(0) with byte " + i + " turned", mill.take(0), i < 13 ? -10 : -11);
            mill.alter(i, 1 << i % 8);
        }
        due.is("take(0) of what was turned back", mill.take(0), 1);
        due.is("digest(1)", mill.digest(1), mill.digest(0));
    }

    private static void takeFull() {
        due.promise(42, "take: FULL");
        FormMill mill = office();
        Due.give(mill, 0, 0, 1, 77);
        mill.export(0);
        for (int i = 1; i < 30; i++) {
            due.is("take(0)", mill.take(0), i);
        }
        due.is("take(0)", mill.take(0), FormMill.FULL);
        due.is("take(1)", mill.take(1), FormMill.BAD);
        mill.alter(0, 1);
        due.is("take(0): FULL ahead of wrong rows", mill.take(0), FormMill.FULL);
        FormMill failing = Failing.upTo(9999);
        failing.figure(0, 0);
        due.is("take(0): it can't fail", failing.take(0), 2);
        due.is("export(0)", failing.export(0), 0);
        due.is("draft(0)", failing.draft(0), 3);
        due.is("give(0, 0)", failing.give(0, 0), 1);
        due.is("entry()", failing.entry(1, 1, 1), 1);
    }

    private static void counts(FormMill mill, int... want) {
        for (int what = 0; what < want.length; what++) {
            due.is("count(" + what + ")", mill.count(what), want[what]);
        }
    }

    private static void count() {
        due.promise(43, "count");
        FormMill mill = new FormMill();
        due.is("count(-1)", mill.count(-1), FormMill.BAD);
        due.is("count(9)", mill.count(9), FormMill.BAD);
        counts(mill, 0, 0, 0, 0, 0, 0, 0, 0, 0);
        Due.form(mill, "form; yes a; signed b 3; list c 3; figure f = try a else try (a / 0) else c;");
        Due.form(mill, "form;");
        Due.feed(mill, "form; y");
        mill.entry(1, 1, NONE);
        mill.entry(1, 1, 1);
        mill.entry(1, 1, 1);
        for (int i = 0; i < 4; i++) {
            mill.draft(0);
        }
        Due.give(mill, 0, 0, 0, 1);
        mill.submit(0, 0);
        mill.export(0);
        mill.move(0, 2, 0, 1);
        counts(mill, 2, 3, 4, 1, 1, 7, 6, 0, 1);
        mill.figure(1, 0);
        due.is("count(7): what a try met counts, too", mill.count(7), 3);
        mill.write(0, 0);
        due.is("count(7): of the desk", mill.count(7), 4);
        Due.give(mill, 1, 0, 1, 1);
        mill.check(1);
        due.is("count(7): of a part", mill.count(7), 5);
        Due.seats(mill, 5, 0);
        mill.give(1, 2);
        mill.migrate(1, 0);
        due.is("count(7): of a move", mill.count(7), 6);
        mill.takeBack(1);
        counts(mill, 2, 3, 5, 1, 1, 7, 6, 6, 3);
    }
}
