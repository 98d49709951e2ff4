/** Offices in which many FAILURES came already. */
final class Failing {
    private Failing() {
    }

    /**
     * An office in which exactly so many failures came. Form 0 has a text and the figure n, that fails once without an answer;
     * form 1 has 8 yes and 12 checks that fail; drafts 0 and 1 are of them; entry 0 is there, and is signed.
     */
    static FormMill upTo(int failures) {
        FormMill mill = new FormMill();
        Due.form(mill, "form; text a 1; figure n = a[0];");
        StringBuilder wide = new StringBuilder("form;");
        for (int i = 0; i < 8; i++) {
            wide.append("yes a").append(i).append(";");
        }
        for (int i = 0; i < 12; i++) {
            wide.append("check 1 1 / 0;");
        }
        Due.form(mill, wide.toString());
        mill.entry(1, 2, 3);
        mill.draft(0);
        mill.draft(1);
        // A filling of form 1 has 12 failures, and 100 are tried in a call.
        int left = failures;
        while (left >= 12) {
            int work = Math.min(100, left / 12);
            mill.shortest(1, work);
            left -= 12 * work;
        }
        for (; left > 0; left--) {
            mill.figure(0, 0);
        }
        if (mill.count(7) != failures) {
            throw new IllegalStateException("failures: " + mill.count(7));
        }
        return mill;
    }
}
