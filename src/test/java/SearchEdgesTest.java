/** The edges that "6 SHORTEST" and promises 35 to 37 name, sentence by sentence. */
public final class SearchEdgesTest {
    private static final Due due = new Due("SearchEdgesTest");
    private static final int NONE = FormMill.NONE, BAD = FormMill.BAD, STATE = FormMill.STATE, FULL = FormMill.FULL;

    public static void main(String[] args) {
        candidates();
        eightParts();
        works();
        fromNoAnswers();
        lastOne();
        setsInOrder();
        lastGoesFastest();
        eachItsOwnAnswers();
        goingOn();
        fromTheBeginning();
        refusedOnes();
        fullAheadOfEach();
        fullThenGoesOn();
        proofs();
        keepsNone();
        keeps();
        keepsOrder();
        keepsFull();
        due.end();
    }

    private static FormMill withRule(String parts, String exp) {
        return Due.with("form;" + parts + "check 1 " + exp + ";");
    }

    /** All CANDIDATES of one PART, found one by one: the k-th is the one that behind k fillings is tried. */
    private static void candidates(String part, int sort, long[]... want) {
        for (int k = 0; k < want.length; k++) {
            StringBuilder exp = new StringBuilder("has a");
            for (int i = 0; i < want[k].length; i++) {
                exp.append(" and a[").append(i).append("]=").append(want[k][i]);
            }
            FormMill mill = withRule(part + ";", exp + " and len a=" + want[k].length);
            due.is("shortest(0, 100) of " + part, mill.shortest(0, 100), 101);
            due.is("keep()", mill.keep(), 0);
            due.is("kindOf(0, 0)", mill.kindOf(0, 0), sort);
            due.is("item(0, 0, -1)", mill.item(0, 0, -1), want[k].length);
            for (int i = 0; i < want[k].length; i++) {
                due.is("item(0, 0, " + i + ") of " + part, mill.item(0, 0, i), want[k][i]);
            }
        }
        FormMill all = withRule(part + ";", "0");
        due.is("shortest(0, 100) of " + part, all.shortest(0, 100), 1);
        due.is("proof(1) of " + part, all.proof(1), want.length);
        if (want.length > 1) {
            FormMill first = withRule(part + ";", "has a");
            due.is("shortest(0, 2) of " + part, first.shortest(0, 2), 101);
            first.keep();
            due.is("the first one of " + part, first.item(0, 0, 0), want[0][0]);
        }
    }

    private static long[] of(long... items) {
        return items;
    }

    private static void candidates() {
        due.promise(35, "CANDIDATES: yes: untrue, true; whole, date: least, most (one, if they are one); choice: 0 .. n - 1");
        candidates("yes a", 0, of(0), of(1));
        for (String kind : new String[] {"whole", "date"}) {
            candidates(kind + " a 3 8", 1, of(3), of(8));
            candidates(kind + " a 3 4", 1, of(3), of(4));
            candidates(kind + " a 0 0", 1, of(0));
            candidates(kind + " a 9999 9999", 1, of(9999));
        }
        candidates("whole a 0 999999", 1, of(0), of(999999));
        candidates("choice a 2", 1, of(0), of(1));
        candidates("choice a 8", 1, of(0), of(1), of(2), of(3), of(4), of(5), of(6), of(7));
        due.promise(35, "CANDIDATES: money: 0, most (two, also where these are one); many: all n untrue, all true");
        candidates("money a 7", 2, of(0), of(7));
        candidates("money a 999999", 2, of(0), of(999999));
        candidates("many a 1 0 1", 0, of(0), of(1));
        candidates("many a 8 0 8", 0, of(0, 0, 0, 0, 0, 0, 0, 0), of(1, 1, 1, 1, 1, 1, 1, 1));
        FormMill money = withRule("money a 0;", "0");
        due.is("shortest(0, 100)", money.shortest(0, 100), 1);
        due.is("proof(1) of money 0", money.proof(1), 2);
        due.promise(35, "CANDIDATES: others have none");
        FormMill others = withRule("text a 1; table b 1 1; list c 1; signed d 1; entry e; group g { }", "0");
        due.is("shortest(0, 1): one filling in all", others.shortest(0, 1), 1);
        due.is("proof(0)", others.proof(0), 1);
        due.is("proof(1)", others.proof(1), 0);
    }

    private static String yes(int n) {
        StringBuilder all = new StringBuilder();
        for (int i = 0; i < n; i++) {
            all.append("yes a").append(i).append(";");
        }
        return all.toString();
    }

    private static void eightParts() {
        due.promise(35, "BAD: also more than 8 PARTS with CANDIDATES");
        due.is("8", withRule(yes(8), "0").shortest(0, 1), 2);
        due.is("9", withRule(yes(9), "0").shortest(0, 1), BAD);
        due.is("20", Due.with("form;" + yes(20)).shortest(0, 1), BAD);
        String mixed = "yes a; whole b 0 1; money c 1; date d 0 1; choice e 2; many f 2 0 2; group g { yes h; yes i;";
        due.is("8 of all kinds, in groups", withRule(mixed + "}", "0").shortest(0, 1), 2);
        due.is("9 of all kinds, in groups", withRule(mixed + "date j 1 1; }", "0").shortest(0, 1), BAD);
        due.is("8 and 12 others", withRule(yes(8) + "text t0 1; text t1 1; text t2 1; text t3 1; text t4 1; text t5 1; text t6 1; text t7 1;"
            + "text t8 1; text t9 1; text u 1; group v { }", "0").shortest(0, 1), 2);
        due.is("none", Due.with("form;").shortest(0, 1), 100);
    }

    private static void works() {
        due.promise(35, "up to so many FILLINGS more (1 .. 100)");
        for (int work : new int[] {0, -1, 101, Integer.MIN_VALUE, Integer.MAX_VALUE}) {
            due.is("shortest(0, " + work + ")", withRule(yes(8), "0").shortest(0, work), BAD);
        }
        for (int work : new int[] {1, 2, 17, 99, 100}) {
            FormMill mill = withRule(yes(8), "0");
            due.is("shortest(0, " + work + ")", mill.shortest(0, work), 2);
            due.is("fillings tried", tried(mill), work);
            due.is("shortest(0, 1)", mill.shortest(0, 1), 2);
            due.is("fillings tried", tried(mill), work + 1);
        }
    }

    private static int tried(FormMill mill) {
        int all = 0;
        for (int m = 0; m <= 8; m++) {
            all += mill.proof(m);
        }
        return all;
    }

    private static void fromNoAnswers() {
        due.promise(35, "From m = 0 on");
        FormMill mill = Due.with("form; yes a; text t 1;");
        due.is("shortest(0, 1)", mill.shortest(0, 1), 100);
        due.is("proof(0)", mill.proof(0), 1);
        due.is("proof(1)", mill.proof(1), 0);
        due.is("keep()", mill.keep(), 0);
        due.is("digest(0)", mill.digest(0), 17);
        due.is("count(8)", mill.count(8), 0);
        // The fewest answers come first: b alone does, though a and b do, too.
        FormMill fewest = withRule("yes a; yes b;", "try b else 0");
        due.is("shortest(0, 100)", fewest.shortest(0, 100), 101);
        fewest.keep();
        due.is("kindOf(0, 0)", fewest.kindOf(0, 0), NONE);
        due.is("item(0, 1, 0)", fewest.item(0, 1, 0), 1);
        FormMill most = Due.with("form; must yes a; must whole b 1 1; must date c 1 1; must whole d 1 1; must whole e 1 1; must whole f 1 1;"
            + " must whole g 1 1; must whole h 1 1;");
        int answer = 2;
        for (int i = 0; i < 20 && answer == 2; i++) {
            answer = most.shortest(0, 100);
        }
        due.is("shortest() of 8 that must be there", answer, 108);
    }

    private static void lastOne() {
        due.promise(35, "1: none is accepted; 2: not ended");
        // A yes has 1 + 2 fillings.
        FormMill mill = withRule("yes a;", "0");
        due.is("shortest(0, 2)", mill.shortest(0, 2), 2);
        due.is("shortest(0, 1): the last one", mill.shortest(0, 1), 1);
        due.is("shortest(0, 3): all of them, from the beginning", mill.shortest(0, 3), 1);
        due.is("shortest(0, 4): more than there are", mill.shortest(0, 4), 1);
        due.is("fillings tried", tried(mill), 3);
        FormMill found = withRule("yes a;", "try a else 0");
        due.is("shortest(0, 2)", found.shortest(0, 2), 2);
        due.is("shortest(0, 1): the last one is found", found.shortest(0, 1), 101);
        due.is("shortest(0, 3)", found.shortest(0, 3), 101);
        FormMill none = withRule("", "0");
        due.is("shortest(0, 1) of one filling", none.shortest(0, 1), 1);
        due.is("keep()", none.keep(), STATE);
    }

    /** By which filling, counted from 1, an exp is met first. */
    private static void firstAt(String parts, String exp, int filling, int m) {
        FormMill mill = withRule(parts, exp);
        if (filling > 1) {
            due.is("shortest(0, " + (filling - 1) + ") for " + exp, mill.shortest(0, filling - 1), 2);
        }
        due.is("filling " + filling + " for " + exp, mill.shortest(0, 1), 100 + m);
    }

    private static void setsInOrder() {
        due.promise(35, "for each set of m PARTS with CANDIDATES (the one with the lesser first PART first, then by the second, ..)");
        String parts = "whole a 1 1; whole b 1 1; text t 1; whole c 1 1; group g { whole d 1 1; }";
        String[] sets = {"", "a", "b", "c", "d", "ab", "ac", "ad", "bc", "bd", "cd", "abc", "abd", "acd", "bcd", "abcd"};
        for (int k = 0; k < sets.length; k++) {
            StringBuilder exp = new StringBuilder("1");
            for (char name : "abcd".toCharArray()) {
                exp.append(sets[k].indexOf(name) >= 0 ? " and has " : " and not has ").append(name);
            }
            firstAt(parts, exp.toString(), k + 1, sets[k].length());
        }
    }

    private static void lastGoesFastest() {
        due.promise(35, "each choice of theirs (the first PART's first one first; the last PART's goes fastest)");
        String parts = "yes a; choice b 3; money c 5;";
        // 1 of none, 2 + 3 + 2 of one, then a with b, a with c, b with c.
        int filling = 8;
        for (int a = 0; a < 2; a++) {
            for (int b = 0; b < 3; b++) {
                filling++;
                firstAt(parts, "has a and has b and a=" + a + " and b=" + b, filling, 2);
            }
        }
        for (int a = 0; a < 2; a++) {
            for (int c = 0; c < 2; c++) {
                filling++;
                firstAt(parts, "has a and has c and a=" + a + " and c=" + 5 * c, filling, 2);
            }
        }
        for (int b = 0; b < 3; b++) {
            for (int c = 0; c < 2; c++) {
                filling++;
                firstAt(parts, "has b and has c and b=" + b + " and c=" + 5 * c, filling, 2);
            }
        }
        for (int a = 0; a < 2; a++) {
            for (int b = 0; b < 3; b++) {
                for (int c = 0; c < 2; c++) {
                    filling++;
                    firstAt(parts, "has a and has b and has c and a=" + a + " and b=" + b + " and c=" + 5 * c, filling, 3);
                }
            }
        }
        due.is("all fillings", filling, 36);
    }

    /** Parts of other kinds and lengths, one behind the other as the first and the second of a filling. */
    private static void eachItsOwnAnswers() {
        due.promise(35, "each FILLING has its own answers, and nothing of those before");
        String parts = "many a 8 0 8; many b 2 0 2; money c 999999; yes d; whole e 7 9; choice f 3;";
        String[] only = {"a and len a=8 and total a=8", "b=0 and len b=2 and not b[1]", "b=2 and len b=2 and total b=2", "c=999999 and len c=1 and total c=c",
            "d=0 and len d=1 and total d=0", "d and len d=1 and total d=1", "e=7 and len e=1 and total e=7", "f=0 and len f=1 and total f=0",
            "f=2 and len f=1 and total f=2"};
        for (String exp : only) {
            char name = exp.charAt(0);
            FormMill one = withRule(parts, "has " + name + " and " + exp);
            due.is("shortest(0, 100) for " + exp, one.shortest(0, 100), 101);
            one.keep();
            for (int p = 0; p < 6; p++) {
                due.is("kindOf(0, " + p + ")", one.kindOf(0, p) == NONE ? 0 : 1, p == name - 'a' ? 1 : 0);
            }
            due.is("check(0)", one.check(0), 0);
            FormMill two = withRule("yes z;" + parts, "has z and has " + name + " and " + exp);
            int answer = two.shortest(0, 100);
            due.is("shortest(0, 100) with z for " + exp, answer == 2 ? two.shortest(0, 100) : answer, 102);
            due.is("keep()", two.keep(), 0);
            due.is("check(0)", two.check(0), 0);
        }
        // What is out of its range by an item too many would be refused.
        FormMill all = Due.with("form; many a 8 0 8; must many b 2 2 2; must many c 1 1 1;");
        due.is("shortest(0, 100)", all.shortest(0, 100), 102);
        all.keep();
        due.is("item(0, 1, -1)", all.item(0, 1, -1), 2);
        due.is("item(0, 2, -1)", all.item(0, 2, -1), 1);
        due.is("kindOf(0, 0)", all.kindOf(0, 0), NONE);
    }

    private static void goingOn() {
        due.promise(35, "going on, if the latest shortest() was of the same form and answered 2");
        FormMill mill = withRule("yes a; yes b;", "0");
        for (int i = 1; i < 9; i++) {
            due.is("shortest(0, 1)", mill.shortest(0, 1), 2);
            due.is("fillings tried", tried(mill), i);
            // What other calls do is nothing to it.
            mill.draft(0);
            mill.check(0);
            mill.keep();
        }
        due.is("shortest(0, 1)", mill.shortest(0, 1), 1);
        due.is("fillings tried", tried(mill), 9);
    }

    private static void fromTheBeginning() {
        due.promise(35, "else from the beginning");
        FormMill mill = withRule("yes a; yes b;", "0");
        Due.form(mill, "form; yes a; check 1 try a else 0;");
        due.is("shortest(0, 5)", mill.shortest(0, 5), 2);
        due.is("shortest(1, 1): another form", mill.shortest(1, 1), 2);
        due.is("fillings tried", tried(mill), 1);
        due.is("shortest(0, 5): not the latest any more", mill.shortest(0, 5), 2);
        due.is("fillings tried", tried(mill), 5);
        due.is("shortest(0, 4)", mill.shortest(0, 4), 1);
        due.is("shortest(0, 1): behind 1", mill.shortest(0, 1), 2);
        due.is("fillings tried", tried(mill), 1);
        due.is("shortest(1, 3)", mill.shortest(1, 3), 101);
        due.is("shortest(1, 1): behind a found one", mill.shortest(1, 1), 2);
        due.is("fillings tried", tried(mill), 1);
        due.is("shortest(1, 2)", mill.shortest(1, 2), 101);
    }

    private static void refusedOnes() {
        due.promise(35, "a shortest() that is refused changes nothing");
        FormMill mill = withRule("yes a; yes b;", "0");
        Due.form(mill, "form;" + yes(9));
        mill.shortest(0, 5);
        due.is("shortest(0, 0)", mill.shortest(0, 0), BAD);
        due.is("shortest(0, 101)", mill.shortest(0, 101), BAD);
        due.is("shortest(1, 1)", mill.shortest(1, 1), BAD);
        due.is("shortest(2, 1)", mill.shortest(2, 1), BAD);
        due.is("fillings tried", tried(mill), 5);
        due.is("shortest(0, 4)", mill.shortest(0, 4), 1);
        due.is("fillings tried", tried(mill), 9);
    }

    /** Form 1 of Failing's has 12 FAILURES in each filling. */
    private static void fullAheadOfEach() {
        due.promise(35, "FULL (asked ahead of each FILLING, too: what was tried stays tried)");
        for (int left = 1; left <= 37; left += 12) {
            FormMill mill = Failing.upTo(10000 - left);
            int before = tried(mill);
            int more = (left + 11) / 12;
            due.is("shortest(1, 100) with " + left + " left", mill.shortest(1, 100), FULL);
            due.is("fillings tried", tried(mill) - before, more);
            due.is("count(7)", mill.count(7), 10000 - left + 12 * more);
            FormMill just = Failing.upTo(10000 - left);
            due.is("shortest(1, " + more + ") with " + left + " left: its work is done", just.shortest(1, more), 2);
            due.is("shortest(1, 1)", just.shortest(1, 1), FULL);
            due.is("fillings tried", tried(just) - before, more);
        }
        FormMill exact = Failing.upTo(9988);
        due.is("shortest(1, 2): 10000 ahead of the second", exact.shortest(1, 2), FULL);
        due.is("count(7)", exact.count(7), 10000);
        FormMill fresh = Failing.upTo(9999);
        Due.form(fresh, "form; yes a; check 1 1/0;");
        due.is("shortest(2, 2): a new search", fresh.shortest(2, 2), FULL);
        due.is("fillings tried", tried(fresh), 1);
        due.is("keep()", fresh.keep(), STATE);
        FormMill last = Failing.upTo(9999);
        Due.form(last, "form; check 1 1/0;");
        due.is("shortest(2, 2): the last one was tried", last.shortest(2, 2), 1);
        due.is("count(7)", last.count(7), 10000);
        FormMill found = Failing.upTo(9998);
        Due.form(found, "form; yes a; check 1 try a else 0;");
        due.is("shortest(2, 9): 9999 by the first, none by the others", found.shortest(2, 9), 101);
        due.is("keep()", found.keep(), 2);
    }

    private static void fullThenGoesOn() {
        due.promise(35, "answered 2 (or FULL, a FILLING ahead)");
        FormMill mill = Failing.upTo(9999);
        int before = tried(mill);
        due.is("shortest(1, 5)", mill.shortest(1, 5), FULL);
        due.is("shortest(1, 5)", mill.shortest(1, 5), FULL);
        due.is("shortest(0, 5): refused at its start", mill.shortest(0, 5), FULL);
        due.is("fillings tried: those of form 1 still", tried(mill), before + 1);
        due.is("shortest(9, 5)", mill.shortest(9, 5), BAD);
        due.is("keep()", mill.keep(), STATE);
    }

    private static void proofs() {
        due.promise(36, "How many FILLINGS of m answers the latest shortest() (with those that it went on from) has tried. BAD: m is not 0 .. 8: -1");
        FormMill mill = withRule("yes a; choice b 3; whole c 4 4;", "0");
        for (int m = 0; m <= 8; m++) {
            due.is("proof(" + m + ") ahead of any", mill.proof(m), 0);
        }
        for (int m : new int[] {-1, 9, Integer.MIN_VALUE, Integer.MAX_VALUE}) {
            due.is("proof(" + m + ")", mill.proof(m), -1);
        }
        int[] all = {1, 6, 11, 6};
        int done = 0;
        for (int filling = 1; filling <= 24; filling++) {
            due.is("shortest(0, 1)", mill.shortest(0, 1), filling == 24 ? 1 : 2);
            int left = filling;
            for (int m = 0; m < 4; m++) {
                due.is("proof(" + m + ") behind " + filling, mill.proof(m), Math.min(left, all[m]));
                left -= Math.min(left, all[m]);
            }
            done++;
        }
        due.is("fillings", done, 24);
        due.is("proof(4)", mill.proof(4), 0);
        due.is("proof(8)", mill.proof(8), 0);
    }

    private static void keepsNone() {
        due.promise(37, "STATE: none is found.");
        FormMill mill = withRule("yes a;", "try a else 0");
        due.is("keep() ahead of any", mill.keep(), STATE);
        mill.shortest(0, 2);
        due.is("keep() behind 2", mill.keep(), STATE);
        mill.shortest(0, 1);
        due.is("keep() behind 101", mill.keep(), 0);
        mill.shortest(0, 1);
        due.is("keep() behind 2", mill.keep(), STATE);
        Due.form(mill, "form; check 1 0;");
        mill.shortest(0, 2);
        due.is("keep()", mill.keep(), 1);
        mill.shortest(1, 1);
        due.is("keep() behind 1", mill.keep(), STATE);
        due.is("count(2)", mill.count(2), 2);
    }

    private static void keeps() {
        due.promise(37, "The filling that the latest shortest() (that was not refused) found, as a DRAFT of that form");
        FormMill mill = withRule("yes a; many b 3 3 3;", "has a and has b");
        Due.form(mill, "form; must date c 7 7;");
        due.is("shortest(0, 100)", mill.shortest(0, 100), 102);
        mill.shortest(0, 0);
        mill.shortest(9, 1);
        due.is("keep()", mill.keep(), 0);
        due.is("item(0, 0, 0)", mill.item(0, 0, 0), 0);
        due.is("item(0, 1, 2)", mill.item(0, 1, 2), 1);
        due.is("keep() again", mill.keep(), 1);
        due.is("digest(1)", mill.digest(1), mill.digest(0));
        due.is("shortest(1, 100)", mill.shortest(1, 100), 101);
        due.is("keep()", mill.keep(), 2);
        due.is("item(2, 0, 0)", mill.item(2, 0, 0), 7);
        due.is("kindOf(2, 1): of form 1", mill.kindOf(2, 1), BAD);
        due.is("submit(2, 0)", mill.submit(2, 0), 1);
        due.is("stats(1, 0, 1)", mill.stats(1, 0, 1), 7);
        FormMill failed = Failing.upTo(9999);
        Due.form(failed, "form; must yes a;");
        due.is("shortest(2, 2)", failed.shortest(2, 2), 101);
        failed.figure(0, 0);
        due.is("shortest(0, 1): FULL", failed.shortest(0, 1), FULL);
        due.is("keep(): what the one ahead found", failed.keep(), 2);
    }

    private static void keepsOrder() {
        due.promise(37, "its answers given in order of PARTS");
        FormMill mill = Due.with("form; must yes a; text t 1; must yes b; group g { must yes c; }");
        due.is("shortest(0, 100)", mill.shortest(0, 100), 103);
        due.is("keep()", mill.keep(), 0);
        due.is("count(8)", mill.count(8), 3);
        due.is("give(0, 1)", mill.give(0, 1), 4);
        int[] parts = {1, 4, 2, 0};
        for (int p : parts) {
            due.is("takeBack(0)", mill.takeBack(0), p);
            due.is("kindOf(0, " + p + ")", mill.kindOf(0, p), NONE);
        }
        due.is("takeBack(0)", mill.takeBack(0), STATE);
        mill.desk(5, 1);
        due.is("keep()", mill.keep(), 1);
        due.is("THE DESK stays", mill.sort(), 5);
    }

    private static void keepsFull() {
        due.promise(37, "FULL (also: its givings would be above 400; none is made then)");
        for (int ahead = 396; ahead <= 400; ahead++) {
            FormMill mill = Due.with("form; must yes a; must yes b; must yes c;");
            mill.shortest(0, 100);
            mill.draft(0);
            Office.givingsOf(mill, 0, ahead);
            due.is("keep() behind " + ahead + " givings", mill.keep(), ahead <= 397 ? 1 : FULL);
            due.is("count(8)", mill.count(8), ahead <= 397 ? ahead + 3 : ahead);
            due.is("count(2)", mill.count(2), ahead <= 397 ? 2 : 1);
        }
        FormMill none = Due.with("form;");
        none.shortest(0, 1);
        Office.draftsOf(none, 29);
        due.is("keep() of the thirtieth", none.keep(), 29);
        due.is("keep()", none.keep(), FULL);
        due.is("count(2)", none.count(2), 30);
    }
}
