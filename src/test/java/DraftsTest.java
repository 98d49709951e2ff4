/** Promises 14 to 20: drafts and their answers. */
public final class DraftsTest {
    private static final Due due = new Due("DraftsTest");

    public static void main(String[] args) {
        draft();
        give();
        givings();
        takeBack();
        takeBackOfOthers();
        kindOf();
        item();
        cellOf();
        digest();
        due.end();
    }

    private static FormMill office() {
        FormMill mill = Due.with("form; yes a; group g { whole b 0 9; } text c 5;");
        mill.entry(1, 10, FormMill.NONE);
        mill.entry(2, 20, 5);
        mill.draft(0);
        return mill;
    }

    private static void draft() {
        due.promise(14, "draft");
        FormMill mill = new FormMill();
        due.is("draft(0)", mill.draft(0), FormMill.BAD);
        Due.form(mill, "form;");
        Due.form(mill, "form; yes a;");
        due.is("draft(2)", mill.draft(2), FormMill.BAD);
        due.is("draft(-1)", mill.draft(-1), FormMill.BAD);
        for (int i = 0; i < 30; i++) {
            due.is("draft()", mill.draft(i % 2), i);
        }
        due.is("count(2)", mill.count(2), 30);
        due.is("draft 31", mill.draft(1), FormMill.FULL);
        due.is("draft 31, BAD", mill.draft(2), FormMill.BAD);
        due.is("kindOf(0, 0): form 0 has no part", mill.kindOf(0, 0), FormMill.BAD);
        due.is("kindOf(1, 0)", mill.kindOf(1, 0), FormMill.NONE);
    }

    private static void give() {
        due.promise(15, "give");
        FormMill mill = office();
        mill.draft(0);
        mill.desk(1, 1);
        due.is("give(2, 0): no draft", mill.give(2, 0), FormMill.BAD);
        due.is("give(-1, 0)", mill.give(-1, 0), FormMill.BAD);
        due.is("give(0, 4): no part", mill.give(0, 4), FormMill.BAD);
        due.is("give(0, -1)", mill.give(0, -1), FormMill.BAD);
        due.is("give(0, 1): a group", mill.give(0, 1), FormMill.BAD);
        due.is("the desk stays", mill.sort(), 1);
        due.is("count(8)", mill.count(8), 0);
        due.is("give(0, 0): whatever object", mill.give(0, 0), 1);
        due.is("the desk holds nothing", mill.sort(), FormMill.NONE);
        due.is("kindOf(0, 0)", mill.kindOf(0, 0), 1);
        due.is("kindOf(1, 0): the other draft", mill.kindOf(1, 0), FormMill.NONE);
        mill.desk(0, 1);
        due.is("give(0, 2)", mill.give(0, 2), 2);
        due.is("give(0, 0): NOTHING is given", mill.give(0, 0), 3);
        due.is("kindOf(0, 0)", mill.kindOf(0, 0), FormMill.NONE);
        mill.desk(0, 1);
        due.is("give(1, 0)", mill.give(1, 0), 1);
        due.is("count(8)", mill.count(8), 4);
        due.is("no failures", mill.count(7), 0);
        mill.takeBack(0);
        mill.desk(3, 1);
        due.is("give(0, 0): what is undone does not count", mill.give(0, 0), 3);
        due.is("count(8): givings ever", mill.count(8), 5);
        due.is("submit(1, 0)", mill.submit(1, 0), 1);
        mill.desk(0, 1);
        due.is("give(1, 0): FILED", mill.give(1, 0), FormMill.STATE);
        due.is("give(1, 1): BAD first", mill.give(1, 1), FormMill.BAD);
        due.is("the desk stays", mill.sort(), 0);
    }

    private static void givings() {
        due.promise(15, "give: 400 givings");
        FormMill mill = office();
        mill.draft(0);
        due.is("submit(1, 0)", mill.submit(1, 0), 1);
        for (int i = 1; i <= 399; i++) {
            due.is("give(0, 0)", mill.give(0, 0), i);
        }
        due.is("takeBack(0)", mill.takeBack(0), 0);
        due.is("give(0, 2)", mill.give(0, 2), 399);
        due.is("count(8)", mill.count(8), 400);
        mill.desk(0, 1);
        due.is("give(0, 0)", mill.give(0, 0), FormMill.FULL);
        due.is("give(0, 1)", mill.give(0, 1), FormMill.BAD);
        due.is("give(1, 0)", mill.give(1, 0), FormMill.STATE);
        due.is("the desk stays", mill.sort(), 0);
        due.is("takeBack(0)", mill.takeBack(0), 2);
        due.is("give(0, 0): givings ever", mill.give(0, 0), FormMill.FULL);
        due.is("count(8)", mill.count(8), 400);
    }

    private static void takeBack() {
        due.promise(16, "takeBack");
        FormMill mill = office();
        due.is("takeBack(1)", mill.takeBack(1), FormMill.BAD);
        due.is("takeBack(-1)", mill.takeBack(-1), FormMill.BAD);
        due.is("takeBack(0)", mill.takeBack(0), FormMill.STATE);
        Due.give(mill, 0, 0, 0, 1);
        Due.give(mill, 0, 2, 1, 7);
        Due.give(mill, 0, 0, 2, 9);
        mill.give(0, 0);
        mill.desk(6, 2);
        due.is("takeBack(0)", mill.takeBack(0), 0);
        due.is("the desk is left alone", mill.sort(), 6);
        due.is("what stood there ahead", mill.kindOf(0, 0), 2);
        due.is("item(0, 0, 0)", mill.item(0, 0, 0), 9);
        due.is("takeBack(0)", mill.takeBack(0), 0);
        due.is("kindOf(0, 0)", mill.kindOf(0, 0), 0);
        due.is("takeBack(0)", mill.takeBack(0), 2);
        due.is("kindOf(0, 2)", mill.kindOf(0, 2), FormMill.NONE);
        due.is("give again", Due.give(mill, 0, 3, 3, 65), 2);
        due.is("takeBack(0)", mill.takeBack(0), 3);
        due.is("takeBack(0)", mill.takeBack(0), 0);
        due.is("kindOf(0, 0)", mill.kindOf(0, 0), FormMill.NONE);
        due.is("takeBack(0)", mill.takeBack(0), FormMill.STATE);
        Due.give(mill, 0, 0, 0, 1);
        due.is("submit(0, 0)", mill.submit(0, 0), 1);
        due.is("takeBack(0): FILED", mill.takeBack(0), FormMill.STATE);
        due.is("kindOf(0, 0)", mill.kindOf(0, 0), 0);
    }

    private static void takeBackOfOthers() {
        due.promise(16, "takeBack: answers that were not given");
        FormMill mill = office();
        Due.give(mill, 0, 0, 0, 1);
        mill.move(0, 0, 0, 0);
        due.is("migrate(0, 0)", mill.migrate(0, 0), 1);
        due.is("takeBack(1)", mill.takeBack(1), FormMill.STATE);
        mill.export(0);
        due.is("take(0)", mill.take(0), 2);
        due.is("takeBack(2)", mill.takeBack(2), FormMill.STATE);
        due.is("give(2, 0)", mill.give(2, 0), 1);
        due.is("takeBack(2)", mill.takeBack(2), 0);
        due.is("the answer that was taken in", mill.kindOf(2, 0), 0);
        due.is("takeBack(2)", mill.takeBack(2), FormMill.STATE);
    }

    private static void kindOf() {
        due.promise(17, "kindOf");
        FormMill mill = office();
        due.is("kindOf(1, 0)", mill.kindOf(1, 0), FormMill.BAD);
        due.is("kindOf(-1, 0)", mill.kindOf(-1, 0), FormMill.BAD);
        due.is("kindOf(0, 1): a group", mill.kindOf(0, 1), FormMill.BAD);
        due.is("kindOf(0, 4)", mill.kindOf(0, 4), FormMill.BAD);
        due.is("kindOf(0, -1)", mill.kindOf(0, -1), FormMill.BAD);
        for (int sort = 0; sort <= 7; sort++) {
            mill.desk(sort, 1);
            mill.give(0, 3);
            due.is("kindOf(0, 3)", mill.kindOf(0, 3), sort);
            due.is("kindOf(0, 0)", mill.kindOf(0, 0), FormMill.NONE);
        }
    }

    private static void item() {
        due.promise(18, "item");
        FormMill mill = office();
        due.is("item(1, 0, 0)", mill.item(1, 0, 0), -100);
        due.is("item(-1, 0, 0)", mill.item(-1, 0, 0), -100);
        due.is("item(0, 1, 0): a group", mill.item(0, 1, 0), -100);
        due.is("item(0, 4, 0)", mill.item(0, 4, 0), -100);
        due.is("item(0, -1, 0)", mill.item(0, -1, 0), -100);
        due.is("item(0, 0, 0): NOTHING", mill.item(0, 0, 0), -100);
        due.is("item(0, 0, -1): NOTHING", mill.item(0, 0, -1), -100);
        Due.give(mill, 0, 0, 2, 5, Long.MIN_VALUE, -9);
        due.is("item(0, 0, -1)", mill.item(0, 0, -1), 3);
        due.is("item(0, 0, 1)", mill.item(0, 0, 1), Long.MIN_VALUE);
        due.is("item(0, 0, 2)", mill.item(0, 0, 2), -9);
        due.is("item(0, 0, 3)", mill.item(0, 0, 3), -100);
        due.is("item(0, 0, -2)", mill.item(0, 0, -2), -100);
        Due.give(mill, 0, 0, 0, 0, 5);
        due.is("a truth", mill.item(0, 0, 1), 1);
        Due.give(mill, 0, 0, 1, 1L << 33 | 7, -1);
        due.is("a whole", mill.item(0, 0, 0), 7);
        due.is("a whole below 0", mill.item(0, 0, 1), -1);
        Due.give(mill, 0, 0, 3, -1);
        due.is("a letter has no sign", mill.item(0, 0, 0), 65535);
        Due.rows(mill, new int[] {1, 2}, null, new int[0]);
        mill.give(0, 0);
        due.is("rows", mill.item(0, 0, -1), 3);
        due.is("row 0", mill.item(0, 0, 0), 2);
        due.is("row 1", mill.item(0, 0, 1), FormMill.NONE);
        due.is("row 2", mill.item(0, 0, 2), 0);
        due.is("row 3", mill.item(0, 0, 3), -100);
        for (int sort = 5; sort <= 6; sort++) {
            Due.seats(mill, sort, 1, -1);
            mill.give(0, 0);
            due.is("entries", mill.item(0, 0, -1), 2);
            due.is("entry", mill.item(0, 0, 0), 1);
            due.is("no entry", mill.item(0, 0, 1), FormMill.NONE);
            due.is("item 2", mill.item(0, 0, 2), -100);
        }
        mill.desk(7, 1);
        mill.give(0, 0);
        due.is("one: items", mill.item(0, 0, -1), 1);
        due.is("one: its number", mill.item(0, 0, 0), 1);
        due.is("one: item 1", mill.item(0, 0, 1), -100);
        mill.desk(1, 0);
        mill.give(0, 0);
        due.is("an empty row", mill.item(0, 0, -1), 0);
        due.is("its item 0", mill.item(0, 0, 0), -100);
        due.is("no failures", mill.count(7), 0);
    }

    private static void cellOf() {
        due.promise(19, "cellOf");
        FormMill mill = office();
        Due.rows(mill, new int[] {1, -2}, null, new int[] {3});
        mill.give(0, 0);
        Due.give(mill, 0, 2, 1, 5);
        due.is("cellOf(0, 0, 0, 0)", mill.cellOf(0, 0, 0, 0), 1);
        due.is("cellOf(0, 0, 0, 1)", mill.cellOf(0, 0, 0, 1), -2);
        due.is("cellOf(0, 0, 2, 0)", mill.cellOf(0, 0, 2, 0), 3);
        int[][] bad = {{0, 0, 0, 2}, {0, 0, 0, -1}, {0, 0, 1, 0}, {0, 0, 2, 1}, {0, 0, 3, 0}, {0, 0, -1, 0}, {0, 1, 0, 0},
            {0, 2, 0, 0}, {0, 3, 0, 0}, {0, 4, 0, 0}, {0, -1, 0, 0}, {1, 0, 0, 0}, {-1, 0, 0, 0}};
        for (int[] b : bad) {
            due.is("cellOf" + java.util.Arrays.toString(b), mill.cellOf(b[0], b[1], b[2], b[3]), 0);
        }
        due.is("no failures", mill.count(7), 0);
    }

    private static int digestOf(int... bytes) {
        int h = 17;
        for (int b : bytes) {
            h = h * 31 + b;
        }
        return h;
    }

    private static int digestOfDisk(FormMill mill) {
        int[] bytes = new int[mill.count(6)];
        for (int i = 0; i < bytes.length; i++) {
            bytes[i] = mill.disk(i);
        }
        return digestOf(bytes);
    }

    private static void digest() {
        due.promise(20, "digest");
        FormMill mill = office();
        due.is("digest(1)", mill.digest(1), 0);
        due.is("digest(-1)", mill.digest(-1), 0);
        due.is("digest(0) of no answers", mill.digest(0), 17);
        Due.give(mill, 0, 2, 0, 1, 0);
        int sum = (((2 * 31 + 0) * 31 + 2) * 31 + 1) * 31 + 0 & 0xFFFF;
        due.is("digest(0)", mill.digest(0), digestOf(2, 0, 2, 1, 0, sum >> 8, sum & 255));
        due.is("the disk stays", mill.count(6), 0);
        for (int sort = 0; sort <= 7; sort++) {
            mill.desk(sort, 1);
            mill.write(0, -2);
            mill.line(0, 2);
            mill.seat(0, 1);
            mill.give(0, sort % 2 == 0 ? 0 : 3);
            mill.export(0);
            due.is("digest(0)", mill.digest(0), digestOfDisk(mill));
        }
        FormMill wide = Due.with("form;" + parts(20));
        wide.draft(0);
        int h = 17;
        for (int p = 0; p < 20; p++) {
            wide.desk(4, 6);
            for (int i = 0; i < 6; i++) {
                wide.line(i, 6);
            }
            wide.give(0, p);
            h = row(h, p);
        }
        due.is("digest(0) beyond what a disk has", wide.digest(0), h);
        due.is("export(0)", wide.export(0), FormMill.FULL);
    }

    /** A row of 6 rows of 6 zeros, as 6 and 24 zeros each. */
    private static int row(int before, int part) {
        int h = before;
        int sum = 0;
        for (int i = 0; i < 153; i++) {
            int b = i == 0 ? part : i == 1 ? 4 : i == 2 || (i - 3) % 25 == 0 ? 6 : 0;
            h = h * 31 + b;
            sum = sum * 31 + b & 0xFFFF;
        }
        h = h * 31 + (sum >> 8);
        return h * 31 + (sum & 255);
    }

    private static String parts(int n) {
        StringBuilder all = new StringBuilder();
        for (int i = 0; i < n; i++) {
            all.append("table a").append(i).append(" 4 6;");
        }
        return all.toString();
    }
}
