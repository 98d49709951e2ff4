/** Offices in which much has been done, and such as are full in one way. */
final class Office {
    /** Parts of form 0: a 0, the group g 1, b 2 in it, c 3, d 4; figures f 0, h 1; one check. */
    static final String FIRST = "form; until 50; signers 2; yes a; group g when has a { text b 3; } list c 4; signed d 4;"
        + " figure f = try a else 0; figure h = 1 / 0; check 7 f;";

    private Office() {
    }

    /**
     * Three forms (the third to search in), entries 0 (not SIGNED), 1, 2, two moves, and drafts: 0 FILED and signed once, 1 with two
     * givings and one undone, 2 FILED later, 3 that came over from 1. A search is in its midst, THE DISK is draft 1's, THE TAPE has
     * a text that is not ended, THE DESK holds rows, and figure() has answered behind a check().
     */
    static FormMill busy() {
        FormMill mill = Due.with(FIRST);
        Due.form(mill, "form; signed s 4; yes t;");
        Due.form(mill, "form; yes a; yes b; yes c; check 1 0;");
        mill.entry(1, 10, FormMill.NONE);
        mill.entry(2, 20, 0);
        mill.entry(3, 30, 9);
        mill.move(0, 3, 1, 0);
        mill.move(0, 0, 1, 1);
        for (int i = 0; i < 3; i++) {
            mill.draft(0);
        }
        Due.give(mill, 0, 0, 0, 1);
        mill.submit(0, 50);
        mill.sign(0, 0);
        Due.give(mill, 2, 0, 0, 1);
        mill.submit(2, 0);
        Due.give(mill, 1, 0, 0, 0);
        Due.seats(mill, 5, 1, 0);
        mill.give(1, 3);
        Due.give(mill, 1, 2, 3, 65);
        mill.takeBack(1);
        mill.migrate(1, 1);
        mill.export(1);
        mill.shortest(2, 5);
        mill.check(1);
        mill.figure(1, 0);
        Due.feed(mill, "form; yes q");
        Due.rows(mill, new int[] {1, 2}, null);
        return mill;
    }

    /** The same, with 10000 FAILURES. */
    static FormMill failed() {
        FormMill mill = busy();
        mill.clear();
        mill.feed(1, ';');
        mill.form();
        // A text without its figures would have no FAILURES to bring; this one has 12 in each filling.
        StringBuilder wide = new StringBuilder("form;");
        for (int i = 0; i < 8; i++) {
            wide.append("yes a").append(i).append(";");
        }
        for (int i = 0; i < 12; i++) {
            wide.append("check 1 1/0;");
        }
        int form = Due.form(mill, wide.toString());
        for (int i = 0; i < 10 && mill.count(7) < 10000; i++) {
            mill.shortest(form, 100);
        }
        return mill;
    }

    static FormMill tapeOf(FormMill mill, int bytes) {
        for (int n = mill.count(5); n < bytes; n += 8) {
            mill.feed(Math.min(8, bytes - n), 0x2020202020202020L);
        }
        return mill;
    }

    static FormMill formsOf(FormMill mill, int forms) {
        for (int n = mill.count(0); n < forms; n++) {
            Due.form(mill, "form;");
        }
        return mill;
    }

    static FormMill entriesOf(FormMill mill, int entries) {
        for (int n = mill.count(1); n < entries; n++) {
            mill.entry(999, 1, FormMill.NONE);
        }
        return mill;
    }

    static FormMill draftsOf(FormMill mill, int drafts) {
        for (int n = mill.count(2); n < drafts; n++) {
            mill.draft(0);
        }
        return mill;
    }

    static FormMill movesOf(FormMill mill, int moves) {
        for (int n = mill.count(4); n < moves; n++) {
            mill.move(2, 0, 2, 1);
        }
        return mill;
    }

    /** Givings of NOTHING, so that each is one call. */
    static FormMill givingsOf(FormMill mill, int draft, int givings) {
        for (int n = mill.count(8); n < givings; n++) {
            mill.give(draft, 0);
        }
        return mill;
    }
}
