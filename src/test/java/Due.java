/** What the tests of the project share: due answers, counted, and texts fed to the tape. */
final class Due {
    private final String name;
    private int asked;
    private int wrong;
    private String promise = "";

    Due(String name) {
        this.name = name;
    }

    /** Names the promise that the rows behind it belong to. */
    void promise(int number, String what) {
        promise = "promise " + number + " (" + what + ")";
    }

    void is(String call, long got, long want) {
        asked++;
        if (got != want) {
            wrong++;
            System.out.println(name + ", " + promise + ": " + call + " answered " + got + ", due is " + want);
        }
    }

    void end() {
        System.out.println(name + ": " + asked + " answers, " + wrong + " wrong");
        if (asked == 0 || wrong > 0) {
            System.exit(1);
        }
    }

    /** Feeds a text, 8 bytes a call at most: the last answer of feed(). */
    static int feed(FormMill mill, String text) {
        int answer = 0;
        for (int i = 0; i < text.length(); i += 8) {
            int n = Math.min(8, text.length() - i);
            long bytes = 0;
            for (int k = n - 1; k >= 0; k--) {
                bytes = bytes << 8 | text.charAt(i + k) & 255;
            }
            answer = mill.feed(n, bytes);
        }
        return answer;
    }

    static int form(FormMill mill, String text) {
        feed(mill, text);
        return mill.form();
    }

    /** A new office with one form. */
    static FormMill with(String text) {
        FormMill mill = new FormMill();
        if (form(mill, text) != 0) {
            throw new IllegalStateException("no form: " + text);
        }
        return mill;
    }

    /** THE DESK holds items of a sort 0 to 3. */
    static void hold(FormMill mill, int sort, long... items) {
        mill.desk(sort, items.length);
        for (int i = 0; i < items.length; i++) {
            mill.write(i, items[i]);
        }
    }

    /** THE DESK holds entries or signeds; -1 is NOTHING. */
    static void seats(FormMill mill, int sort, int... entries) {
        mill.desk(sort, entries.length);
        for (int i = 0; i < entries.length; i++) {
            mill.seat(i, entries[i]);
        }
    }

    /** THE DESK holds rows; null is NOTHING. */
    static void rows(FormMill mill, int[]... rows) {
        mill.desk(4, rows.length);
        for (int i = 0; i < rows.length; i++) {
            if (rows[i] != null) {
                mill.line(i, rows[i].length);
                for (int j = 0; j < rows[i].length; j++) {
                    mill.cell(i, j, rows[i][j]);
                }
            }
        }
    }

    static int give(FormMill mill, int draft, int part, int sort, long... items) {
        hold(mill, sort, items);
        return mill.give(draft, part);
    }
}
