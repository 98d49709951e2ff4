/** Promises 1 to 5: a new object, the tape and its texts. */
public final class TextsTest {
    private static final Due due = new Due("TextsTest");

    public static void main(String[] args) {
        newObject();
        feed();
        form();
        tokens();
        heads();
        parts();
        bounds();
        names();
        rules();
        exps();
        limits();
        depths();
        about();
        part();
        due.end();
    }

    private static void newObject() {
        due.promise(1, "a new object");
        FormMill mill = new FormMill();
        for (int what = 0; what <= 8; what++) {
            due.is("count(" + what + ")", mill.count(what), 0);
        }
        due.is("sort()", mill.sort(), FormMill.NONE);
        due.is("value()", mill.value(), 0);
        due.is("told(0)", mill.told(0), 0);
        due.is("told(3)", mill.told(3), FormMill.NONE);
        due.is("about(0, 0)", mill.about(0, 0), -100);
        due.is("draft(0)", mill.draft(0), FormMill.BAD);
        due.is("disk(0)", mill.disk(0), FormMill.BAD);
        due.is("BAD", FormMill.BAD, -1);
        due.is("STATE", FormMill.STATE, -2);
        due.is("FULL", FormMill.FULL, -3);
        due.is("LATE", FormMill.LATE, -4);
        due.is("NONE", FormMill.NONE, -9);
    }

    private static void feed() {
        due.promise(2, "feed");
        FormMill mill = new FormMill();
        due.is("feed(0, 1)", mill.feed(0, 1), FormMill.BAD);
        due.is("feed(9, 1)", mill.feed(9, 1), FormMill.BAD);
        due.is("feed(-1, 1)", mill.feed(-1, 1), FormMill.BAD);
        due.is("count(5)", mill.count(5), 0);
        // "form;" comes lowest byte first; bytes above the n lowest are not read.
        due.is("feed(4, ..)", mill.feed(4, 0x7F6D726F66L), 4);
        due.is("feed(1, ..)", mill.feed(1, 0xFFFFFF3BL), 5);
        due.is("form()", mill.form(), 0);
        for (int i = 1; i <= 174; i++) {
            due.is("feed(8)", mill.feed(8, 0x2020202020202020L), 8 * i);
        }
        due.is("feed(7)", mill.feed(7, 0x20202020202020L), 1399);
        due.is("feed(2), too many", mill.feed(2, 0x2020L), FormMill.FULL);
        due.is("count(5)", mill.count(5), 1399);
        due.is("feed(1)", mill.feed(1, 0x20L), 1400);
        due.is("feed(1), too many", mill.feed(1, 0x20L), FormMill.FULL);
        due.is("feed(0), BAD ahead of FULL", mill.feed(0, 0x20L), FormMill.BAD);
        due.is("form() of blanks: the text's length", mill.form(), -10 - 1400);
        FormMill high = new FormMill();
        due.is("feed(8, -1)", high.feed(8, -1L), 8);
        due.is("form() of bytes 255", high.form(), -10);
    }

    private static void form() {
        due.promise(3, "form");
        FormMill mill = new FormMill();
        due.is("form() of nothing", mill.form(), -10);
        for (int i = 0; i < 10; i++) {
            due.is("form()", Due.form(mill, "form;"), i);
            due.is("count(0)", mill.count(0), i + 1);
            due.is("the tape is used up", mill.count(5), 0);
        }
        Due.feed(mill, "form; what");
        due.is("form(), FULL ahead of the fault", mill.form(), FormMill.FULL);
        due.is("the tape is empty then", mill.count(5), 0);
        FormMill other = new FormMill();
        fault(other, "form; what", 6);
        due.is("the tape is used up by a fault", other.count(5), 0);
        due.is("no form came", other.count(0), 0);
        for (int i = 0; i < 7; i++) {
            String text = "form; check 1 " + times("1", 100, "+");
            fault(other, text + " 2;", text.length() + 1);
        }
        due.is("a form behind a fault", Due.form(other, "form; yes a;"), 0);
        due.is("it has its part alone", other.about(0, 0), 1);
    }

    private static void fault(FormMill mill, String text, int place) {
        due.is("form() of '" + text + "'", Due.form(mill, text), -10 - place);
    }

    /** A text that is refused: a # marks the place of its fault, and is not part of it. */
    private static void refused(String marked) {
        int place = marked.indexOf('#');
        fault(new FormMill(), marked.substring(0, place) + marked.substring(place + 1), place);
    }

    private static void stands(String text) {
        due.is("form() of '" + text + "'", Due.form(new FormMill(), text), 0);
    }

    private static void tokens() {
        due.promise(3, "form: tokens");
        stands("form;");
        stands("\n form\n;\n ");
        stands("form;yes a;yes b2c;figure f=1+a*b2c-3;check 5 1<2;");
        stands("form;whole a 1 2when 1;");
        stands("form;yes abcdefgh;whole b 000000 999999;");
        stands("form; yes forma; yes yesyes; yes tryy;");
        refused("form; yes #abcdefghi;");
        refused("form; whole a 0 #1000000;");
        refused("form; whole a 0 #0000001;");
        refused("form; yes #A;");
        refused("form; yes a#?");
        refused("form; yes a#\tb;");
        refused("form; yes a#!;");
        refused("form; yes a; #\u00e4");
        refused("form; yes #2a;");
        refused("form; check 1 1 #& 2;");
        refused("form; check 1 1 #: 2;");
        refused("form; check 1 1 #. 2;");
        refused("form; check 1 1 #_ 2;");
        refused("form; yes a when 1 #\r;");
    }

    private static void heads() {
        due.promise(3, "form: heads");
        refused("#yes a;");
        refused("form #yes a;");
        refused("#;");
        refused("#forms;");
        refused("form#");
        refused("form #");
        refused("form; until#");
        refused("form; until #10000;");
        refused("form; until #a;");
        refused("form; until 9999#");
        refused("form; signers #6;");
        refused("form; signers 5 #6;");
        refused("form; signers 5; #until 4;");
        refused("form; until 1; #until 4;");
        refused("form; yes a; #signers 4;");
        refused("form; #;");
        stands("form; until 0; signers 0;");
        stands("form; until 9999; signers 5;");
        stands("form; signers 5;");
    }

    private static void parts() {
        due.promise(3, "form: parts");
        stands("form; yes a; whole b 0 5; money c 0; date d 1 1; choice e 2; many f 3 1 2; text g 24;"
            + " table h 4 6; list i 8; signed j 8; entry k; group l { } group m when 1 { must yes n when 1; }");
        refused("form; must #group a { }");
        refused("form; must #must yes a;");
        refused("form; must #figure a = 1;");
        refused("form; yes a #{ }");
        refused("form; yes a #1;");
        refused("form; yes a when #;");
        refused("form; yes a when#");
        refused("form; yes a when 1 #when 1;");
        refused("form; group a #;");
        refused("form; group a { yes b; #");
        refused("form; group a { yes b #}");
        refused("form; group a { } #}");
        refused("form; group a { #figure f = 1; }");
        refused("form; group a { #check 1 1; }");
        refused("form; group #{ }");
        refused("form; group a when #{ }");
        refused("form; check 1 1; #yes a;");
        refused("form; #a;");
        refused("form; #when 1;");
        refused("form; yes a; #}");
        refused("form; entry a #1;");
    }

    private static void bounds() {
        due.promise(3, "form: bounds");
        refused("form; whole a 5 #4;");
        refused("form; whole a #;");
        refused("form; whole a 5#;");
        refused("form; whole a #- 5 5;");
        stands("form; whole a 0 0; whole b 999999 999999;");
        stands("form; money a 0; money b 999999;");
        refused("form; money a 1 #2;");
        refused("form; date a #10000 10000;");
        refused("form; date a 9999 #10000;");
        refused("form; date a 7 #6;");
        stands("form; date a 0 0; date b 9999 9999;");
        refused("form; choice a #1;");
        refused("form; choice a #9;");
        stands("form; choice a 2; choice b 8;");
        refused("form; many a #0 0 0;");
        refused("form; many a #9 0 0;");
        refused("form; many a 3 #4 4;");
        refused("form; many a 3 0 #4;");
        refused("form; many a 3 2 #1;");
        stands("form; many a 1 0 0; many b 8 8 8; many c 8 0 8;");
        refused("form; text a #0;");
        refused("form; text a #25;");
        stands("form; text a 1; text b 24;");
        refused("form; table a #0 1;");
        refused("form; table a #5 1;");
        refused("form; table a 1 #0;");
        refused("form; table a 1 #7;");
        stands("form; table a 1 1; table b 4 6;");
        refused("form; list a #0;");
        refused("form; list a #9;");
        refused("form; signed a #0;");
        refused("form; signed a #9;");
        stands("form; list a 1; list b 8; signed c 1; signed d 8;");
    }

    private static void names() {
        due.promise(3, "form: names");
        String[] own = ("form until signers must when group yes whole money date choice many text table list signed entry"
            + " figure check or and not len has is total try else truths wholes moneys letters rows entries signeds one").split(" ");
        for (String word : own) {
            refused("form; yes #" + word + ";");
            refused("form; figure #" + word + " = 1;");
        }
        refused("form; yes a; whole #a 1 2;");
        refused("form; yes a; group #a { }");
        refused("form; group a { yes #a; }");
        refused("form; yes a; figure #a = 1;");
        refused("form; figure a = 1; figure #a = 1;");
        refused("form; yes a; check 1 #b;");
        refused("form; yes a when #b; check 1 a;");
        refused("form; group g { } check 1 #g;");
        refused("form; group g { } check 1 has #g;");
        refused("form; group g { } check 1 #g[0];");
        refused("form; figure f = #f;");
        refused("form; figure f = #g; figure g = 1;");
        refused("form; figure f = 1; check 1 #f[0];");
        refused("form; figure f = 1; check 1 #f[0, 0];");
        refused("form; figure f = 1; check 1 len #f;");
        refused("form; figure f = 1; check 1 has #f;");
        refused("form; figure f = 1; check 1 is wholes #f;");
        refused("form; figure f = 1; check 1 total #f;");
        refused("form; figure f = 1; check 1 total #f[0];");
        refused("form; yes a when #f; figure f = 1;");
        // The name itself stands ahead of those between its signs.
        refused("form; check 1 #b[c];");
        refused("form; yes a; check 1 a[#c] + d;");
        // Names are looked for only if nothing else is wrong.
        refused("form; yes a when b; check 1 1 #1;");
        refused("form; check 1 b; figure #8 = 1;");
        stands("form; yes a when b; yes b when a; figure f = a; check 1 f + a; figure g = f;");
        stands("form; yes f; figure g = f; check 1 f + g;");
    }

    private static void rules() {
        due.promise(3, "form: rules");
        refused("form; figure #= 1;");
        refused("form; figure f #1;");
        refused("form; figure f = #;");
        refused("form; figure f = 1#");
        refused("form; check #;");
        refused("form; check 1#;");
        refused("form; check #a 1;");
        refused("form; check 1 1 #figure f = 1;");
        stands("form; check 1 1; figure f = 1; check 999999 f; check 0 0;");
    }

    private static void exps() {
        due.promise(3, "form: exps");
        String[] good = {
            "1 or 2 or 3 and 4 and 5", "1 = 2", "1 < 2 or 1 > 2", "1 + 2 - 3 * 4 / 5 % 6", "- - 1", "not not 1",
            "- not - 1", "a", "a[1]", "a[1, 2]", "a[a[1], a]", "len a", "has a", "is truths a", "is wholes a",
            "is moneys a", "is letters a", "is rows a", "is entries a", "is signeds a", "is one a", "total a",
            "total a[1]", "try 1 else 2", "try - 1 else - 2", "try try 1 else 2 else 3", "try 1 else try 2 else 3",
            "a[1 or 2, 3 or 4]", "total a[1 or 2]", "(1)", "((1 or 2))", "(1 = 2) = 3", "not a = 1", "1 + try 2 else 3 * 4", "len a + 1", "total a - 1", "a[1 or 2]"
        };
        for (String exp : good) {
            stands("form; yes a; check 1 " + exp + ";");
        }
        String[] wrong = {
            "1 #2", "1 = 2 #= 3", "1 < 2 #> 3", "1 = 2 #< 3", "1 or #or 2", "#or 1", "1 + #+ 2", "1 + #;", "1 and #;", "#* 2",
            "(1 #; )", "(1#", "(#)", "a[#]", "a[1#;", "a[1, #]", "a[1, 2 #, 3]", "a[1 #;", "len #1", "len #(a)", "len a #[1]",
            "has #has", "has #;", "is #a", "is truths#", "is truths #1", "is one #one", "is #yes a", "total #1", "total a[1 #, 2]",
            "total a[#]", "try 1 #;", "try #else 2", "try 1 #+ 2 else 3", "try 1 else #;", "try 1 else #+ 2", "#else", "not #;", "not #+ 1",
            "- #;", "- #* 1", "1 #not 2", "1 #(2)", "1 #[2]", "#[1]", "1 #a", "a #a", "#form", "1 #{", "1#}", "#,", "1 #, 2", "1 >#= 2", "1 <#> 2"
        };
        for (String exp : wrong) {
            refused("form; yes a; check 1 " + exp + ";");
        }
    }

    private static String times(String part, int n, String joint) {
        StringBuilder all = new StringBuilder();
        for (int i = 0; i < n; i++) {
            all.append(i == 0 ? "" : joint).append(part.replace("@", "" + i));
        }
        return all.toString();
    }

    private static void limits() {
        due.promise(3, "form: how many");
        stands("form;" + times("yes a@;", 20, " "));
        refused("form;" + times("yes a@;", 20, " ") + " yes #b;");
        refused("form;" + times("yes a@;", 20, " ") + " group #b { }");
        stands("form;" + times("group a@ {", 10, " ") + times("yes b@;", 10, " ") + times("}", 10, ""));
        stands("form;" + times("group a@ { }", 20, " "));
        refused("form;" + times("group a@ { }", 20, " ") + " yes #b;");
        refused("form; group g { " + times("yes a@;", 19, " ") + " } yes #b;");
        refused("form;" + times("yes a@;", 20, " ") + " #b;");
        stands("form;" + times("figure f@ = 1;", 12, " ") + times("check 1 1;", 12, " "));
        refused("form;" + times("figure f@ = 1;", 12, " ") + " figure #g = 1;");
        refused("form;" + times("check 1 1;", 12, " ") + " check #1 1;");
        refused("form;" + times("check 1 1;", 12, " ") + times("figure f@ = 1;", 12, " ") + " check #1 1;");
        // 125 numbers and 124 signs are 249 nodes; each sign between them is one, too.
        stands("form;check 1 1;check 1 " + times("1", 125, "+") + ";");
        refused("form;check 1 1;check 1 1;check 1 " + times("1", 124, "+") + "+#1+1;");
        refused("form;check 1 " + times("1", 125, "+") + "+#1;");
        refused("form;check 1 " + times("1", 125, " or ") + " or #1;");
        String[] nodes = {"1", "a", "- 1", "not 1", "len a", "has a", "is one a", "total a", "try 1 else 2", "a[1]", "a[1, 2]",
            "total a[1]", "(1)", "1 = 2", "1 < 2", "1 > 2", "1 + 2", "1 - 2", "1 * 2", "1 / 2", "1 % 2", "1 or 2", "1 and 2"};
        int[] counts = {1, 1, 2, 2, 2, 2, 2, 2, 3, 2, 3, 3, 1, 3, 3, 3, 3, 3, 3, 3, 3, 3, 3};
        for (int i = 0; i < nodes.length; i++) {
            FormMill mill = Due.with("form; yes a; check 7 " + nodes[i] + ";");
            due.is("nodes of " + nodes[i], mill.about(0, 3), counts[i]);
        }
        due.is("nodes of conditions, figures, checks",
            Due.with("form; yes a when 1 + 2; group g when 3 { } figure f = 1 - a; check 7 f = 2;").about(0, 3), 10);
        // The 251st by each of its tokens.
        String head = "form;yes a;check 1 " + times("1", 125, "+") + ";check 1 ";
        refused(head + "a[#1];");
        refused(head + "len #a;");
        refused(head + "has #a;");
        refused(head + "is one #a;");
        refused(head + "total #a;");
        refused(head + "try #1 else 2;");
        refused(head + "- #1;");
        refused(head + "not #1;");
        refused(head + "1 #= 1;");
        refused(head + "1 #< 1;");
        refused(head + "1 #> 1;");
        refused(head + "1 #- 1;");
        refused(head + "1 #* 1;");
        refused(head + "1 #/ 1;");
        refused(head + "1 #% 1;");
        refused(head + "1 #or 1;");
        refused(head + "1 #and 1;");
        stands(head + "(1);");
        String full = "form;yes a;check 1 " + times("1", 125, "+") + ";check 1 1;check 1 ";
        for (String token : new String[] {"1", "a", "len a", "has a", "is one a", "total a", "try 1 else 2", "- 1", "not 1"}) {
            refused(full + "#" + token + ";");
        }
    }

    private static void depths() {
        due.promise(3, "form: depths");
        stands("form; check 1 " + times("(", 10, "") + "1" + times(")", 10, "") + ";");
        refused("form; check 1 " + times("(", 10, "") + "#(1" + times(")", 11, "") + ";");
        stands("form; check 1 " + times("- ", 10, "") + "1;");
        refused("form; check 1 " + times("- ", 10, "") + "#- 1;");
        stands("form; check 1 " + times("not ", 10, "") + "1;");
        refused("form; check 1 " + times("not ", 10, "") + "#not 1;");
        stands("form; yes a; check 1 " + times("a[", 10, "") + "1" + times("]", 10, "") + ";");
        refused("form; yes a; check 1 " + times("a[", 10, "") + "a#[1" + times("]", 11, "") + ";");
        refused("form; yes a; check 1 " + times("a[", 10, "") + "total a#[1" + times("]", 11, "") + ";");
        stands("form; check 1 " + times("try ", 10, "") + "1" + times(" else 1", 10, "") + ";");
        refused("form; check 1 " + times("try ", 10, "") + "#try 1" + times(" else 1", 11, "") + ";");
        stands("form; check 1 " + times("try 1 else ", 10, "") + "1;");
        refused("form; check 1 " + times("try 1 else ", 10, "") + "#try 1 else 1;");
        stands("form;" + times("group a@ {", 10, " ") + "yes b;" + times("}", 10, ""));
        refused("form;" + times("group a@ {", 10, " ") + "#group b { }" + times("}", 10, ""));
        refused("form;" + times("group a@ {", 10, " ") + "yes b when #(1);" + times("}", 10, ""));
        // The condition of a group lies in the group.
        stands("form;" + times("group a@ {", 9, " ") + "group b when 1 { }" + times("}", 9, ""));
        refused("form;" + times("group a@ {", 9, " ") + "group b when #- 1 { }" + times("}", 9, ""));
        stands("form;" + times("group a@ {", 9, " ") + "yes b when - 1;" + times("}", 9, ""));
        stands("form; figure f = " + times("(", 10, "") + "1" + times(")", 10, "") + ";");
        refused("form; figure f = " + times("(", 10, "") + "#(1" + times(")", 11, "") + ";");
        stands("form; yes a when " + times("(", 10, "") + "1" + times(")", 10, "") + ";");
        refused("form; yes a when " + times("(", 10, "") + "#(1" + times(")", 11, "") + ";");
        stands("form; yes a; check 1 " + times("(", 8, "") + "a[1, (1)]" + times(")", 8, "") + ";");
        stands("form; yes a; check 1 " + times("(", 8, "") + "total a[(1)]" + times(")", 8, "") + ";");
        // What has ended counts no more; rules lie in no group.
        stands("form; check 1 " + times("(1)", 30, " + ") + " + - 1 + - 1;");
        stands("form; check 1 " + times("- 1", 20, " + ") + ";");
        stands("form;" + times("group a@ { }", 12, " ") + "check 1 " + times("(", 10, "") + "1" + times(")", 10, "") + ";");
        stands("form; check 1 " + times("(", 9, "") + "- 1 + - 1 + not 1 + (1) + try 1 else 1 + - 1" + times(")", 9, "") + ";");
        refused("form; check 1 " + times("(", 9, "") + "- #- 1" + times(")", 9, "") + ";");
        refused("form; check 1 " + times("(", 9, "") + "try 1 else #(1)" + times(")", 9, "") + ";");
        refused("form; check 1 " + times("(", 9, "") + "try #- 1 else 1" + times(")", 9, "") + ";");
        refused("form; yes a; check 1 " + times("(", 9, "") + "a[1, #(1)]" + times(")", 9, "") + ";");
        stands("form; check 1 " + times("- not ", 5, "") + "1;");
        stands("form; check 1 " + times("- not (", 3, "") + "- 1" + times(")", 3, "") + ";");
        refused("form; check 1 " + times("- not (", 3, "") + "- #- 1" + times(")", 3, "") + ";");
    }

    private static void about() {
        due.promise(4, "about");
        FormMill mill = Due.with("form; until 77; signers 3; yes a; group g { yes b; } figure f = a + 1; check 1 1; check 2 2;");
        long[] want = {3, 1, 2, 5, 77, 3};
        for (int what = 0; what < want.length; what++) {
            due.is("about(0, " + what + ")", mill.about(0, what), want[what]);
        }
        due.is("about(0, 6)", mill.about(0, 6), -100);
        due.is("about(0, -1)", mill.about(0, -1), -100);
        due.is("about(1, 0)", mill.about(1, 0), -100);
        due.is("about(-1, 0)", mill.about(-1, 0), -100);
        due.is("form()", Due.form(mill, "form;"), 1);
        long[] bare = {0, 0, 0, 0, FormMill.NONE, 0};
        for (int what = 0; what < bare.length; what++) {
            due.is("about(1, " + what + ")", mill.about(1, what), bare[what]);
        }
        fault(mill, "form; until 5; signers 2; yes a; check 1 1 1;", 43);
        due.is("form()", Due.form(mill, "form;"), 2);
        for (int what = 0; what < bare.length; what++) {
            due.is("about(2, " + what + ")", mill.about(2, what), bare[what]);
        }
        due.is("about(0, 3) as before", mill.about(0, 3), 5);
    }

    private static void part() {
        due.promise(5, "part");
        FormMill mill = Due.with("form; must yes a; whole b 0 1; money c 1; date d 0 1; must choice e 2; many f 1 0 1; text g 1;"
            + " table h 1 1; group o { list i 1; group p { } group q { signed j 1; } must entry k; } yes z;");
        int[] kinds = {0, 1, 2, 3, 4, 5, 6, 7, 11, 8, 11, 11, 9, 10, 0};
        int[] groups = {-9, -9, -9, -9, -9, -9, -9, -9, -9, 8, 8, 8, 11, 8, -9};
        int[] musts = {1, 0, 0, 0, 1, 0, 0, 0, 0, 0, 0, 0, 0, 1, 0};
        for (int p = 0; p < kinds.length; p++) {
            due.is("part(0, " + p + ", 0)", mill.part(0, p, 0), kinds[p]);
            due.is("part(0, " + p + ", 1)", mill.part(0, p, 1), groups[p]);
            due.is("part(0, " + p + ", 2)", mill.part(0, p, 2), musts[p]);
        }
        due.is("part(0, 15, 0)", mill.part(0, 15, 0), -100);
        due.is("part(0, -1, 0)", mill.part(0, -1, 0), -100);
        due.is("part(1, 0, 0)", mill.part(1, 0, 0), -100);
        due.is("part(-1, 0, 0)", mill.part(-1, 0, 0), -100);
        due.is("part(0, 0, 3)", mill.part(0, 0, 3), -100);
        due.is("part(0, 0, -1)", mill.part(0, 0, -1), -100);
    }
}
