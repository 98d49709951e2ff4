/** The edges that "1 TEXTS" and promises 1 to 5 name, sentence by sentence. */
public final class TextEdgesTest {
    private static final Due due = new Due("TextEdgesTest");
    private static final int NONE = FormMill.NONE, FULL = FormMill.FULL;

    public static void main(String[] args) {
        newOffice();
        tapeHas1400();
        lowestBytesFirst();
        wordsOfEight();
        lettersAndDigits();
        numbersOfSix();
        everyByte();
        asLongAsCanBe();
        ownWords();
        anyNumberAlsoNone();
        headBounds();
        partBounds();
        leastNotAboveMost();
        messages();
        oneComparison();
        endsTooEarly();
        firstTokenThatCantStand();
        nothingBehindTheEnd();
        nothingOfTheOneBefore();
        nameTakenAlready();
        twentyParts();
        twelveFigures();
        twelveChecks();
        nodes250();
        eachNode();
        depthOfTen();
        depthOfTwoKinds();
        endedOnes();
        firstNameUnknown();
        toldAhead();
        tenForms();
        about();
        part();
        due.end();
    }

    // ---- texts that stand, and texts with a # at their FAULT

    private static void stands(String text) {
        due.is("form() of '" + text + "'", Due.form(new FormMill(), text), 0);
    }

    private static void fault(String marked) {
        int place = marked.indexOf('#');
        String text = marked.substring(0, place) + marked.substring(place + 1);
        due.is("form() of '" + text + "'", Due.form(new FormMill(), text), -10 - place);
    }

    private static String times(int n, String each) {
        StringBuilder all = new StringBuilder();
        for (int i = 0; i < n; i++) {
            all.append(each.replace("@", "" + i));
        }
        return all.toString();
    }

    // ---- promise 1, 2

    private static void newOffice() {
        due.promise(1, "An office without forms; THE DESK holds NOTHING.");
        FormMill mill = new FormMill();
        due.is("count(0)", mill.count(0), 0);
        due.is("about(0, 0)", mill.about(0, 0), -100);
        due.is("part(0, 0, 0)", mill.part(0, 0, 0), -100);
        due.is("draft(0)", mill.draft(0), FormMill.BAD);
        due.is("take(0)", mill.take(0), FormMill.BAD);
        due.is("shortest(0, 1)", mill.shortest(0, 1), FormMill.BAD);
        due.is("move(0, 0, 0, 0)", mill.move(0, 0, 0, 0), FormMill.BAD);
        due.is("stats(0, 0, 0)", mill.stats(0, 0, 0), -100);
        due.is("sort()", mill.sort(), NONE);
        due.is("check(0)", mill.check(0), FormMill.BAD);
        due.is("seat(0, 0): no ENTRY", mill.seat(0, 0), FormMill.BAD);
        due.is("desk(7, 0): no ENTRY", mill.desk(7, 0), FormMill.BAD);
        due.is("cutDisk(0): an empty disk", mill.cutDisk(0), 0);
        due.is("cutDisk(1)", mill.cutDisk(1), FormMill.BAD);
        due.is("alter(0, 0)", mill.alter(0, 0), FormMill.BAD);
        due.is("count(7)", mill.count(7), 0);
        due.is("write(0, 0)", mill.write(0, 0), -11);
        due.is("a second office has none of it", new FormMill().count(7), 0);
    }

    private static void tapeHas1400() {
        due.promise(2, "THE TAPE has 1400 bytes at most.");
        FormMill mill = Office.tapeOf(new FormMill(), 1392);
        due.is("count(5)", mill.count(5), 1392);
        due.is("feed(8, ..)", mill.feed(8, 0x2020202020202020L), 1400);
        due.is("feed(1, ..)", mill.feed(1, ' '), FULL);
        due.is("count(5)", mill.count(5), 1400);
        due.is("form() of 1400 blanks", mill.form(), -1410);
        due.is("feed(1, ..) again", mill.feed(1, ' '), 1);
        FormMill whole = Office.tapeOf(new FormMill(), 1395);
        due.is("feed(5, ..)", whole.feed(5, 0x3B6D726F66L), 1400);
        due.is("a form in the last bytes", whole.form(), 0);
        FormMill last = Office.tapeOf(new FormMill(), 1399);
        due.is("feed(1, ..)", last.feed(1, '?'), 1400);
        due.is("a fault in the last byte", last.form(), -10 - 1399);
        FormMill tokens = new FormMill();
        for (int i = 0; i < 175; i++) {
            tokens.feed(8, 0x3B3B3B3B3B3B3B3BL);
        }
        due.is("1400 tokens", tokens.form(), -10);
    }

    private static void lowestBytesFirst() {
        due.promise(2, "The n lowest bytes of a number, the lowest first.");
        long bytes = 0x2020203B6D726F66L;
        for (int n = 1; n <= 8; n++) {
            FormMill mill = new FormMill();
            due.is("feed(" + n + ", ..)", mill.feed(n, bytes), n);
            due.is("form() of " + n + " bytes", mill.form(), n < 5 ? n < 4 ? -10 : -14 : 0);
        }
        FormMill high = new FormMill();
        due.is("feed(5, ..) of a number below 0", high.feed(5, 0xFFFFFF3B6D726F66L), 5);
        due.is("form()", high.form(), 0);
        FormMill eighth = new FormMill();
        due.is("feed(8, ..) of a number below 0", eighth.feed(8, 0x8020203B6D726F66L), 8);
        due.is("form(): byte 128 begins none", eighth.form(), -17);
    }

    // ---- tokens

    private static void wordsOfEight() {
        due.promise(3, "WORDS (a letter a .. z, then letters and digits; 8 at most)");
        stands("form; yes a;");
        stands("form; yes abcdefgh; yes a2345678;");
        fault("form; yes #abcdefghi;");
        fault("form; yes #a23456789;");
        fault("form; yes a when #abcdefghi;");
        fault("form; #abcdefghi");
        fault("#formformf;");
        // Names of 8 that differ in one letter are two.
        stands("form; yes abcdefgh; yes abcdefgi; yes bbcdefgh; yes abcdefg;");
        fault("form; yes abcdefgh; yes #abcdefgh;");
    }

    private static void lettersAndDigits() {
        due.promise(3, "WORDS: letters a .. z, digits 0 .. 9");
        stands("form; yes az09; yes z; yes a0; yes z9;");
        fault("form; yes #`;");
        fault("form; yes a#`;");
        fault("form; yes #{;");
        fault("form; yes a#{;");
        fault("form; yes #|;");
        fault("form; yes a#:;");
        fault("form; yes a#/;");
        fault("form; yes #A;");
        fault("form; yes #Z;");
        fault("form; yes a#A;");
        fault("form; yes #0a;");
        fault("form; yes #9;");
    }

    private static void numbersOfSix() {
        due.promise(3, "NUMBERS (1 to 6 digits)");
        stands("form; whole a 0 999999; money b 999999; check 999999 999999; check 000000 000000;");
        fault("form; whole a 0 #1000000;");
        fault("form; whole a #0000000 1;");
        fault("form; money a #0000001;");
        fault("form; check #1000000 1;");
        fault("form; check 1 #1000000;");
        fault("form; check 1 #00000000000000000000000000000000000001;");
        FormMill mill = Due.with("form; check 1 1; figure f = 999999; figure g = 000009;");
        mill.draft(0);
        mill.figure(0, 0);
        due.is("999999", mill.value(), 999999);
        mill.figure(0, 1);
        due.is("000009", mill.value(), 9);
    }

    private static void everyByte() {
        due.promise(3, "SIGNS ; { } ( ) [ ] , = < > + - * / % ; bytes 32 and 10 between them; also a byte that begins none");
        for (int b = 0; b < 256; b++) {
            // Behind a whole exp: what begins no token, and what can't stand there, is the fault; others go on to the text's end.
            FormMill mill = new FormMill();
            Due.feed(mill, "form; yes a; check 1 a");
            mill.feed(1, b);
            boolean isWord = b >= 'a' && b <= 'z' || b >= '0' && b <= '9';
            int want;
            if (b == ' ' || b == '\n' || b == ';' || "=<>+-*/%[".indexOf(b) >= 0 && b > 0) {
                want = b == ';' ? 0 : -10 - 23;
            } else {
                // A letter or digit makes the name longer, which the text's end is ahead of.
                want = isWord ? -10 - 23 : -10 - 22;
            }
            due.is("form() with byte " + b, mill.form(), want);
        }
        for (int b = 0; b < 256; b++) {
            FormMill mill = new FormMill();
            mill.feed(1, b);
            Due.feed(mill, "form;");
            boolean isBlank = b == ' ' || b == '\n';
            due.is("form() behind byte " + b, mill.form(), isBlank ? 0 : -10);
        }
        String sign = ";{}()[],=<>+-*/%";
        for (int i = 0; i < sign.length(); i++) {
            for (int blank = 0; blank < 3; blank++) {
                FormMill mill = new FormMill();
                String between = blank == 0 ? "" : blank == 1 ? " " : "\n\n ";
                due.is("the sign " + sign.charAt(i), Due.form(mill, "form" + between + sign.charAt(i) + "?"),
                    sign.charAt(i) == ';' ? -15 - between.length() : -14 - between.length());
            }
        }
    }

    private static void asLongAsCanBe() {
        due.promise(3, "each as long as it can be");
        stands("form;yes a;yes aa;check 1 aa;");
        stands("form;whole a 1 2when 3;check 4not 5;");
        stands("form;whole a 12 13;");
        fault("form;whole a 121 #13;");
        fault("form;whole a 1213#;");
        fault("form;yes yes1;yes #yes1;");
        stands("form;yes formform;yes whenx;yes a when formform;");
        stands("form;yes awhen1;");
        fault("form;yes a #when1;");
        fault("#for m;");
        fault("form;figure f=1;check 1 #ff;");
        fault("form;check 1 23#a;");
    }

    private static void ownWords() {
        due.promise(3, "The words in quotes here stand for themselves alone; all others are NAMES.");
        String[] own = ("form until signers must when group yes whole money date choice many text table list signed entry"
            + " figure check or and not len has is total try else truths wholes moneys letters rows entries signeds one").split(" ");
        for (String word : own) {
            fault("form; yes #" + word + ";");
            fault("form; group #" + word + " { }");
            fault("form; figure #" + word + " = 1;");
            fault("form; yes a; check 1 len #" + word + ";");
        }
        String[] others = ("forms kind part name sum all comp prod base exp sort rule true false nothing row none null truth letter money1"
            + " i on fo orr andd nott ones figures checks ticket must1 s sig").split(" ");
        for (String word : others) {
            stands("form; yes " + word + "; check 1 " + word + ";");
        }
    }

    // ---- heads, parts, bounds

    private static void anyNumberAlsoNone() {
        due.promise(3, "some parts, some rules (any number, also none; so in a group)");
        stands("form;");
        stands("form; yes a;");
        stands("form; check 1 1;");
        stands("form; figure f = 1;");
        stands("form; until 1;");
        stands("form; signers 1;");
        stands("form; until 1; signers 1; yes a; check 1 a;");
        stands("form; group g { }");
        stands("form; group g { } group h { group i { } }");
        stands("form; group g { yes a; yes b; group h { yes c; } yes d; } yes e;");
        FormMill bare = Due.with("form; group g { }");
        due.is("its parts", bare.about(0, 0), 1);
        fault("#");
        fault("form#");
        fault("form;#?");
        fault("form; until 1; #form;");
        fault("form; check 1 1; #yes a;");
        fault("form; figure f = 1; #group g { }");
        fault("form; signers 1; #until 1;");
        fault("form; signers 1; #signers 1;");
        fault("form; must#;");
    }

    private static void bounded(String head, String tail, int least, int most) {
        stands(head + least + tail);
        stands(head + most + tail);
        if (least > 0) {
            fault(head + "#" + (least - 1) + tail);
        }
        if (most < 999999) {
            fault(head + "#" + (most + 1) + tail);
            fault(head + "#999999" + tail);
        } else {
            fault(head + "#1000000" + tail);
        }
        fault(head + "#- 1" + tail);
        fault(head + "#a" + tail);
        fault(head + "#;");
        fault(head + "#");
    }

    private static void headBounds() {
        due.promise(3, "day 0 .. 9999");
        bounded("form; until ", ";", 0, 9999);
        due.promise(3, "n of signers 0 .. 5");
        bounded("form; signers ", ";", 0, 5);
        due.promise(3, "until and signers each with a ;");
        fault("form; until 5 #signers 5;");
        fault("form; until 5 #5;");
        fault("form; signers 5 #yes a;");
        fault("form #until 5;");
    }

    private static void partBounds() {
        due.promise(3, "whole, money: NUMBERS");
        bounded("form; whole x 0 ", ";", 0, 999999);
        bounded("form; whole x ", " 999999;", 0, 999999);
        bounded("form; money x ", ";", 0, 999999);
        due.promise(3, "of dates both 0 .. 9999");
        bounded("form; date x ", " 9999;", 0, 9999);
        bounded("form; date x 0 ", ";", 0, 9999);
        due.promise(3, "choice n 2 .. 8");
        bounded("form; choice x ", ";", 2, 8);
        due.promise(3, "many n 1 .. 8, least and most not above n");
        bounded("form; many x ", " 0 1;", 1, 8);
        for (int n = 1; n <= 8; n++) {
            bounded("form; many x " + n + " ", " " + n + ";", 0, n);
            bounded("form; many x " + n + " 0 ", ";", 0, n);
        }
        due.promise(3, "text most 1 .. 24");
        bounded("form; text x ", ";", 1, 24);
        due.promise(3, "columns 1 .. 4, rows 1 .. 6");
        bounded("form; table x ", " 6;", 1, 4);
        bounded("form; table x 4 ", ";", 1, 6);
        due.promise(3, "list, signed most 1 .. 8");
        bounded("form; list x ", ";", 1, 8);
        bounded("form; signed x ", ";", 1, 8);
        due.promise(3, "yes, entry without bounds");
        stands("form; yes x; entry y;");
        fault("form; yes x #1;");
        fault("form; entry x #0;");
        due.promise(3, "no bound more than told");
        for (String part : new String[] {"whole x 1 2", "money x 1", "date x 1 2", "choice x 2", "many x 2 1 1", "text x 1", "table x 1 1",
            "list x 1", "signed x 1"}) {
            stands("form; " + part + ";");
            fault("form; " + part + " #1;");
        }
    }

    private static void leastNotAboveMost() {
        due.promise(3, "least not above most");
        for (String kind : new String[] {"whole x", "date x", "many x 8"}) {
            stands("form; " + kind + " 0 0;");
            stands("form; " + kind + " 5 5;");
            stands("form; " + kind + " 5 6;");
            fault("form; " + kind + " 5 #4;");
            fault("form; " + kind + " 5 #0;");
        }
        stands("form; whole x 999999 999999;");
        fault("form; whole x 999999 #999998;");
        stands("form; date x 9999 9999;");
        fault("form; date x 9999 #9998;");
        stands("form; many x 8 8 8;");
        fault("form; many x 8 8 #7;");
    }

    private static void messages() {
        due.promise(3, "message: a NUMBER");
        bounded("form; check ", " 1;", 0, 999999);
        FormMill mill = Due.with("form; check 0 0; check 999999 0;");
        mill.draft(0);
        mill.check(0);
        due.is("finding(0, 3)", mill.finding(0, 3), 0);
        due.is("finding(1, 3)", mill.finding(1, 3), 999999);
    }

    private static void oneComparison() {
        due.promise(3, "comp: sum [ = sum | < sum | > sum ]");
        stands("form; check 1 1;");
        for (char sign : "=<>".toCharArray()) {
            stands("form; check 1 1 " + sign + " 2;");
            for (char other : "=<>".toCharArray()) {
                fault("form; check 1 1 " + sign + " 2 #" + other + " 3;");
                fault("form; check 1 1 " + sign + "#" + other + " 3;");
                stands("form; check 1 (1 " + sign + " 2) " + other + " 3;");
                stands("form; check 1 1 " + sign + " 2 and 3 " + other + " 4;");
            }
        }
    }

    // ---- THE FAULT

    private static void endsTooEarly() {
        due.promise(3, "the text's length, if it ends too early");
        String[] tokens = ("form ; until 5 ; signers 2 ; group g when has b { table b 1 2 ; } must whole a 1 2 when ( len b ) = 3 ;"
            + " figure f = try a [ 0 ] else - b [ 1 , 2 ] ; check 3 is one b or total b [ 1 ] and not f ;").split(" ");
        StringBuilder text = new StringBuilder();
        for (String token : tokens) {
            String cut = text.toString();
            due.is("form() of '" + cut + "'", Due.form(new FormMill(), cut), mayEnd(cut) ? 0 : -10 - cut.length());
            text.append(token).append(' ');
        }
        stands(text.toString());
        for (int blanks = 0; blanks < 4; blanks++) {
            String cut = "form; yes a" + " \n  ".substring(0, blanks);
            due.is("form() of '" + cut + "'", Due.form(new FormMill(), cut), -10 - cut.length());
        }
    }

    /** Whether a text of the tokens above may end here: behind a ; or } that is in no group. */
    private static boolean mayEnd(String text) {
        int opened = text.length() - text.replace("{", "").length();
        int closed = text.length() - text.replace("}", "").length();
        return opened == closed && (text.endsWith("; ") || text.endsWith("} "));
    }

    private static void firstTokenThatCantStand() {
        due.promise(3, "THE FAULT: the first TOKEN that can't stand, by its first byte");
        fault("form; #what; yes a; yes a;");
        fault("form; yes a; yes #a; whole b 2 1; ?");
        fault("form; whole b 2 #1; yes b; ?");
        fault("form; yes a #? yes a;");
        fault("form; yes a; #abcdefghi ?");
        fault("form; yes a; \n\n  #7");
        fault("form; check 1 a; check 1 1 #1;");
        fault("form; yes a when b; #?");
        // A NUMBER out of its bounds counts ahead of what is behind it, a NAME that no part has only at the end.
        fault("form; yes a when zz; text b #25;");
    }

    private static void nothingBehindTheEnd() {
        due.promise(3, "THE TAPE ends where it ends, whatever a longer one had there before");
        FormMill mill = new FormMill();
        due.is("form()", Due.form(mill, "form; yes abcdefgh; whole b 123456 234567;"), 0);
        due.is("form() of a word cut off", Due.form(mill, "form; ye"), -16);
        due.is("form()", Due.form(mill, "form; yes abcdefgh; whole b 123456 234567;"), 1);
        due.is("form() of a name cut off", Due.form(mill, "form; yes abcd"), -24);
        due.is("form()", Due.form(mill, "form; until 1111111"), -22);
        due.is("form() of a number cut off", Due.form(mill, "form; until 11"), -24);
        // A full tape that ends in a letter, a digit, a blank.
        for (char last : "ye1 ".toCharArray()) {
            FormMill full = Office.tapeOf(new FormMill(), 1399);
            full.feed(1, last);
            due.is("form() of 1399 blanks and '" + last + "'", full.form(), last == ' ' ? -1410 : -1409);
        }
    }

    private static void nothingOfTheOneBefore() {
        due.promise(3, "a text with a FAULT leaves nothing to the next one");
        String[] faults = {"form; until 5; signers 2; must yes a when 1; group g { whole b 1 2; } figure f = 1 + 2; check 7 f; check 8 f; ?",
            "form;check 1 " + sum(125) + ";check 1 1;?", "form; yes a; check 1 zz;"};
        for (String text : faults) {
            FormMill mill = new FormMill();
            for (int i = 0; i < 3; i++) {
                due.is("form() of '" + text + "'", Due.form(mill, text) < 0 ? 1 : 0, 1);
            }
            due.is("form()", Due.form(mill, "form; yes y; choice z 3; figure x = z - 7 * 2;"), 0);
            int[] want = {2, 1, 0, 5, NONE, 0};
            for (int what = 0; what < 6; what++) {
                due.is("about(0, " + what + ")", mill.about(0, what), want[what]);
            }
            due.is("part(0, 0, 2)", mill.part(0, 0, 2), 0);
            due.is("part(0, 1, 1)", mill.part(0, 1, 1), NONE);
            mill.draft(0);
            due.is("check(0)", mill.check(0), 0);
            Due.give(mill, 0, 1, 1, 2);
            due.is("check(0)", mill.check(0), 0);
            due.is("figure(0, 0)", mill.figure(0, 0), 0);
            due.is("value()", mill.value(), -12);
        }
    }

    private static void nameTakenAlready() {
        due.promise(3, "a NAME that a PART or FIGURE has already");
        fault("form; yes a; yes #a;");
        fault("form; yes a; group #a { }");
        fault("form; group a { yes #a; }");
        fault("form; group a { } yes #a;");
        fault("form; group g { yes a; } yes #a;");
        fault("form; group g { yes a; } group h { yes #a; }");
        fault("form; yes a; figure #a = 1;");
        fault("form; group a { } figure #a = 1;");
        fault("form; figure a = 1; check 1 1; figure #a = 2;");
        fault("form; " + times(20, "yes a@; ") + "figure #a19 = 1;");
        fault("form; " + times(11, "figure f@ = 1; ") + "figure #f10 = 1;");
        fault("form; " + times(19, "yes a@; ") + "yes #a0;");
        // What was told in another form is not told here.
        FormMill mill = Due.with("form; yes a; figure f = 1;");
        due.is("form()", Due.form(mill, "form; yes f; figure a = 1;"), 1);
        due.is("form() behind a fault", Due.form(mill, "form; yes x; yes y; figure z = 1; ?"), -10 - 34);
        due.is("form()", Due.form(mill, "form; yes z; figure x = 1; check 1 x;"), 2);
    }

    // ---- how many

    private static void twentyParts() {
        due.promise(3, "the NAME of a 21st PART (groups count)");
        stands("form; " + times(20, "yes a@; "));
        due.is("about(0, 0)", Due.with("form; " + times(20, "yes a@; ")).about(0, 0), 20);
        fault("form; " + times(20, "yes a@; ") + "yes #b;");
        fault("form; " + times(20, "yes a@; ") + "must whole #b 1 2;");
        fault("form; " + times(20, "yes a@; ") + "group #b { }");
        stands("form; " + times(20, "group a@ { } "));
        fault("form; " + times(20, "group a@ { } ") + "group #b { }");
        fault("form; " + times(20, "group a@ { } ") + "entry #b;");
        stands("form; group g { " + times(19, "yes a@; ") + "}");
        fault("form; group g { " + times(19, "yes a@; ") + "yes #b; }");
        fault("form; " + times(10, "group g@ { ") + times(10, "yes a@; ") + "yes #b; " + times(10, "} "));
        stands("form; " + times(10, "group g@ { ") + times(10, "yes a@; ") + times(10, "} "));
        fault("form; " + times(10, "group g@ { yes a@; } ") + "yes #b;");
        // The word ahead of the NAME still stands.
        fault("form; " + times(20, "yes a@; ") + "must #b;");
        stands("form; " + times(20, "yes a@; ") + times(12, "figure f@ = a@; "));
    }

    private static void twelveFigures() {
        due.promise(3, "of a 13th FIGURE");
        stands("form; " + times(12, "figure f@ = 1; "));
        due.is("about(0, 1)", Due.with("form; " + times(12, "figure f@ = 1; ")).about(0, 1), 12);
        fault("form; " + times(12, "figure f@ = 1; ") + "figure #g = 1;");
        fault("form; " + times(12, "figure f@ = 1; check @ 1; ") + "figure #g = 1;");
        fault("form; " + times(12, "figure f@ = 1; ") + "figure #f0 = 1;");
    }

    private static void twelveChecks() {
        due.promise(3, "the message of a 13th check");
        stands("form; " + times(12, "check @ 1; "));
        due.is("about(0, 2)", Due.with("form; " + times(12, "check @ 1; ")).about(0, 2), 12);
        fault("form; " + times(12, "check @ 1; ") + "check #1 1;");
        fault("form; " + times(12, "check @ 1; figure f@ = 1; ") + "check #1 1;");
        stands("form; " + times(12, "check @ 1; ") + times(12, "figure f@ = 1; "));
        fault("form; " + times(12, "check @ 1; ") + "check #a 1;");
    }

    private static String sum(int numbers) {
        return "1" + times(numbers - 1, "+1");
    }

    private static void nodes250() {
        due.promise(3, "the 251st NODE");
        stands("form;check 1 " + sum(125) + ";check 1 1;");
        due.is("about(0, 3)", Due.with("form;check 1 " + sum(125) + ";check 1 1;").about(0, 3), 250);
        fault("form;check 1 " + sum(125) + "+#1;");
        fault("form;check 1 " + sum(125) + ";check 1 1;check 1 #1;");
        fault("form;check 1 " + sum(125) + ";check 1 1#+1;");
        // They are those of conditions, figures and checks together.
        stands("form;yes a when " + sum(50) + ";group g when " + sum(25) + "{}figure f=" + sum(25) + ";check 1 " + sum(25) + ";check 1 1+1;");
        due.is("about(0, 3)", Due.with("form;yes a when " + sum(50) + ";group g when " + sum(25) + "{}figure f=" + sum(25) + ";check 1 " + sum(25)
            + ";check 1 1+1;").about(0, 3), 249);
        fault("form;yes a when " + sum(50) + ";group g when " + sum(25) + "{}figure f=" + sum(25) + ";check 1 " + sum(25) + ";check 1 1+1;check 2 1#+1;");
        fault("form;yes a when " + sum(125) + ";yes b when - #1;");
        fault("form;yes a when " + sum(125) + ";group b when 1 #or 1{}");
        fault("form;yes a when " + sum(125) + ";figure f=1;figure g=#f;");
        // Each form has its own.
        FormMill mill = Due.with("form;check 1 " + sum(125) + ";check 1 1;");
        due.is("form()", Due.form(mill, "form;check 1 1;"), 1);
        due.is("about(1, 3)", mill.about(1, 3), 1);
    }

    private static void eachNode() {
        due.promise(3, "in exps each NUMBER, each NAME, each of the signs + - * / % = < > and of the words or and not len has is total try");
        String[] one = {"1", "a", "(1)", "((a))"};
        String[] two = {"-1", "-a", "not 1", "not a", "len a", "has a", "is one a", "is truths a", "total a", "a[1]", "a[a]"};
        String[] three = {"1+1", "1-1", "1*1", "1/1", "1%1", "1=1", "1<1", "1>1", "1 or 1", "1 and 1", "try 1 else 1", "a[1,1]", "total a[1]"};
        String[][] all = {one, two, three};
        String head = "form;yes a;check 1 " + sum(123) + ";check 1 ";
        for (int n = 1; n <= 3; n++) {
            for (String exp : all[n - 1]) {
                due.is("NODES of " + exp, Due.with("form;yes a;check 1 " + exp + ";").about(0, 3), n);
                // 245 and so many as fill it up: one more can't stand.
                String filled = head + exp + ";check 1 " + (n == 1 ? "1+1;check 1 1" : n == 2 ? "1+1" : "-1");
                due.is("NODES up to 250", Due.with(filled + ";").about(0, 3), 250);
                fault(filled + "#+1;");
                fault(filled + ";check 1 #1;");
            }
        }
        due.is("no NODES: bounds, messages, days", Due.with("form; until 5; signers 1; whole a 1 2; check 7 1; figure f = 1;").about(0, 3), 2);
        String full = "form;yes a;check 1 " + sum(125) + ";check 1 ";
        for (String exp : new String[] {"a[#1]", "len #a", "has #a", "is one #a", "total #a", "try #1 else 1", "-#1", "not #1", "1#+1", "1#-1", "1#*1",
            "1#/1", "1#%1", "1#=1", "1#<1", "1#>1", "1 #or 1", "1 #and 1"}) {
            fault(full + exp + ";");
        }
        for (String exp : new String[] {"1", "a", "len a", "has a", "is one a", "total a", "try 1 else 1", "-1", "not 1", "a[1]"}) {
            fault(full + "1;check 1 #" + exp + ";");
        }
    }

    // ---- how deep

    /** What opens one of the kinds, and what ends it. */
    private static final String[][] DEEP = {{"(", ")"}, {"a[", "]"}, {"a[1,", "]"}, {"total a[", "]"}, {"-", ""}, {"not ", ""},
        {"try ", " else 1"}, {"try 1 else ", ""}};

    private static String marked(String opening) {
        return opening.startsWith("a[1") ? "a#[1," : opening.startsWith("a[") ? "a#[" : opening.startsWith("total") ? "total a#["
            : "#" + opening;
    }

    private static void depthOfTen() {
        due.promise(3, "a group, ( , [ , - of one, not, try that lies in 10 such ones not ended");
        for (String[] deep : DEEP) {
            String ten = times(10, deep[0]) + "1" + times(10, deep[1]);
            stands("form;yes a;check 1 " + ten + ";");
            stands("form;yes a;figure f=" + ten + ";");
            stands("form;yes a when " + ten + ";");
            String eleven = times(10, deep[0]) + marked(deep[0]) + "1" + times(11, deep[1]);
            fault("form;yes a;check 1 " + eleven + ";");
            fault("form;yes a;figure f=" + eleven + ";");
            fault("form;yes a when " + eleven + ";");
            // A group is one of the ten; its own condition lies in it.
            String nine = times(9, deep[0]) + "1" + times(9, deep[1]);
            String tenth = times(9, deep[0]) + marked(deep[0]) + "1" + times(10, deep[1]);
            stands("form;group g{yes a when " + nine + ";}");
            fault("form;group g{yes a when " + tenth + ";}");
            stands("form;yes a;group g when " + nine + "{}");
            fault("form;yes a;group g when " + tenth + "{}");
            stands("form;group g{}yes a when " + ten + ";");
        }
        stands("form;" + times(10, "group g@{") + "yes a when 1;" + times(10, "}"));
        fault("form;" + times(10, "group g@{") + "#group h{}" + times(10, "}"));
        for (String[] deep : DEEP) {
            fault("form;yes b;" + times(10, "group g@{") + "yes a when " + marked(deep[0]) + "1" + deep[1] + ";" + times(10, "}"));
            stands("form;yes b;" + times(9, "group g@{") + "yes a when " + deep[0] + "1" + deep[1] + ";" + times(9, "}"));
        }
        fault("form;" + times(9, "group g@{") + "group h when #(1){}" + times(9, "}"));
        stands("form;" + times(8, "group g@{") + "group h when (1){}" + times(8, "}"));
    }

    private static void depthOfTwoKinds() {
        due.promise(3, "such ones, of whatever kind");
        for (String[] outer : DEEP) {
            for (String[] inner : DEEP) {
                String head = "form;yes a;check 1 ";
                stands(head + times(9, outer[0]) + inner[0] + "1" + inner[1] + times(9, outer[1]) + ";");
                fault(head + times(9, outer[0]) + inner[0] + marked(inner[0]) + "1" + inner[1] + inner[1] + times(9, outer[1]) + ";");
                fault(head + times(5, outer[0] + inner[0]) + marked(outer[0]) + "1" + outer[1] + times(5, inner[1] + outer[1]) + ";");
                stands(head + times(5, outer[0] + inner[0]) + "1" + times(5, inner[1] + outer[1]) + ";");
            }
        }
    }

    private static void endedOnes() {
        due.promise(3, "(a - , not, try ends with the last one of it)");
        for (String[] deep : DEEP) {
            String nine = times(9, "(");
            String closed = times(9, ")");
            String one = deep[0] + "1" + deep[1];
            for (String[] next : DEEP) {
                stands("form;yes a;check 1 " + nine + one + "+" + next[0] + "1" + next[1] + closed + ";");
            }
            stands("form;yes a;check 1 " + one + times(11, "+" + one) + ";");
            stands("form;yes a;check 1 " + nine + one + closed + "=" + nine + one + closed + ";");
        }
        // Both halves of a try lie in it, and what is behind its second does not.
        stands("form;check 1 " + times(9, "(") + "try 1 else 1+(1)" + times(9, ")") + ";");
        fault("form;check 1 " + times(9, "(") + "try 1 else #(1)" + times(9, ")") + ";");
        fault("form;check 1 " + times(9, "(") + "try #(1) else 1" + times(9, ")") + ";");
        fault("form;yes a;check 1 " + times(9, "(") + "a[1,#(1)]" + times(9, ")") + ";");
        stands("form;yes a;check 1 " + times(9, "(") + "a[1,1]+(1)" + times(9, ")") + ";");
        stands("form;" + times(15, "group g@{}") + "yes a when " + times(10, "(") + "1" + times(10, ")") + ";");
        stands("form;" + times(9, "group g@{") + "group h{}group i{}group j{}" + times(9, "}") + "check 1 " + times(10, "-") + "1;");
        // A - between two is none of them.
        stands("form;check 1 " + times(10, "(") + "1-1-1" + times(10, ")") + ";");
        fault("form;check 1 " + times(10, "(") + "1-#-1" + times(10, ")") + ";");
        stands("form;check 1 " + times(10, "-") + "1-1;");
    }

    // ---- names in exps

    private static void firstNameUnknown() {
        due.promise(3, "If there is none such: the first NAME in an exp that is no FIGURE told ahead where it stands alone, nor a PART that is no group.");
        fault("form; check 1 #b;");
        fault("form; yes a; check 1 a + #b + c;");
        fault("form; yes a when #b; yes c when d;");
        fault("form; group g when #b { }");
        fault("form; group g { } yes a when #g;");
        fault("form; group g { yes a when #g; }");
        for (String exp : new String[] {"#z", "#z[0]", "#z[0, 0]", "len #z", "has #z", "is one #z", "total #z", "total #z[0]", "#z[y]", "a[#z]", "a[1, #z]",
            "total a[#z]", "try #z else y", "try 1 else #z", "- #z", "not #z", "(#z)", "0 and #z", "1 or #z"}) {
            fault("form; yes a; check 1 " + exp + ";");
            fault("form; yes a; group z { } check 1 " + exp + ";");
            fault("form; yes a; check 1 " + exp + "; figure z = 1;");
        }
        // Any other fault comes first, be it behind.
        fault("form; yes a; check 1 z; check 2 a #?");
        fault("form; yes a; check 1 z; figure #a = 1;");
        fault("form; yes a when z; " + times(19, "yes b@; ") + "yes #c;");
        fault("form; check 1 z #");
        fault("form; check 1 z;" + times(12, "check 1 1;").substring(10) + " check #1 1;");
    }

    private static void toldAhead() {
        due.promise(3, "A NAME alone is a FIGURE told ahead, or a PART; all others are PARTS (told anywhere in the text; no group).");
        stands("form; yes a when b; yes b;");
        stands("form; yes a when len b + has b + total b + b[0]; group g { yes b; }");
        stands("form; figure f = 1; figure g = f; check 1 f + g;");
        fault("form; figure f = #f;");
        fault("form; figure f = #g; figure g = 1;");
        fault("form; check 1 #f; figure f = 1;");
        fault("form; yes a when #f; figure f = 1;");
        for (String exp : new String[] {"#f[0]", "#f[0, 0]", "len #f", "has #f", "is one #f", "total #f", "total #f[0]"}) {
            fault("form; yes a; figure f = 1; check 1 " + exp + ";");
        }
        stands("form; yes a; " + times(11, "figure f@ = 1; ") + "figure f11 = f0 + f10;");
        fault("form; yes a; " + times(11, "figure f@ = 1; ") + "figure f11 = f0 + f10 + #f11;");
    }

    // ---- promises 3 to 5

    private static void tenForms() {
        due.promise(3, "FULL: 10 forms (asked first; THE TAPE is empty then, too)");
        FormMill mill = new FormMill();
        for (int i = 0; i < 10; i++) {
            due.is("form()", Due.form(mill, "form; " + times(i, "yes a@; ")), i);
        }
        Due.feed(mill, "form;");
        due.is("count(5)", mill.count(5), 5);
        due.is("form()", mill.form(), FULL);
        due.is("count(5)", mill.count(5), 0);
        due.is("form() of an empty tape", mill.form(), FULL);
        due.is("form() of a wrong text", Due.form(mill, "?"), FULL);
        due.is("count(0)", mill.count(0), 10);
        for (int i = 0; i < 10; i++) {
            due.is("about(" + i + ", 0)", mill.about(i, 0), i);
        }
        due.is("about(10, 0)", mill.about(10, 0), -100);
        due.is("draft(9)", mill.draft(9), 0);
        due.is("draft(10)", mill.draft(10), FormMill.BAD);
    }

    private static void about() {
        due.promise(4, "4 until (NONE), 5 signers (0 without)");
        String[] texts = {"form;", "form; until 0;", "form; until 9999;", "form; signers 0;", "form; signers 5;", "form; until 0; signers 5;"};
        int[] until = {NONE, 0, 9999, NONE, NONE, 0};
        int[] signers = {0, 0, 0, 0, 5, 5};
        for (int i = 0; i < texts.length; i++) {
            FormMill mill = Due.with(texts[i]);
            due.is("about(0, 4) of " + texts[i], mill.about(0, 4), until[i]);
            due.is("about(0, 5) of " + texts[i], mill.about(0, 5), signers[i]);
            for (int what = 0; what < 4; what++) {
                due.is("about(0, " + what + ") of " + texts[i], mill.about(0, what), 0);
            }
        }
    }

    private static void part() {
        due.promise(5, "1 the group it is in, the inmost one (NONE)");
        FormMill mill = Due.with("form; " + times(10, "group g@ { ") + "yes a; " + times(10, "} yes b@; ").replace("yes b9; ", ""));
        due.is("about(0, 0)", mill.about(0, 0), 20);
        for (int p = 0; p < 10; p++) {
            due.is("part(0, " + p + ", 0)", mill.part(0, p, 0), 11);
            due.is("part(0, " + p + ", 1)", mill.part(0, p, 1), p == 0 ? NONE : p - 1);
            due.is("part(0, " + p + ", 2)", mill.part(0, p, 2), 0);
        }
        due.is("part(0, 10, 1)", mill.part(0, 10, 1), 9);
        for (int p = 11; p < 20; p++) {
            due.is("part(0, " + p + ", 1)", mill.part(0, p, 1), 19 - p);
        }
        due.is("part(0, 20, 1)", mill.part(0, 20, 1), -100);
        due.promise(5, "2 1 if it must be there, else 0");
        String[] kinds = {"yes x", "whole x 1 2", "money x 1", "date x 1 2", "choice x 2", "many x 2 1 1", "text x 1", "table x 1 1", "list x 1",
            "signed x 1", "entry x"};
        for (int k = 0; k < kinds.length; k++) {
            FormMill one = Due.with("form; " + kinds[k] + "; must " + kinds[k].replace(" x", " y") + " when 1;");
            for (int p = 0; p < 2; p++) {
                due.is("part(0, " + p + ", 0) of " + kinds[k], one.part(0, p, 0), k);
                due.is("part(0, " + p + ", 1) of " + kinds[k], one.part(0, p, 1), NONE);
                due.is("part(0, " + p + ", 2) of " + kinds[k], one.part(0, p, 2), p);
            }
        }
    }
}
