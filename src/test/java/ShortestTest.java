import java.util.ArrayList;
import java.util.List;

/** Promises 35 to 37: the shortest filling. */
public final class ShortestTest {
    private static final Due due = new Due("ShortestTest");

    public static void main(String[] args) {
        shortest();
        candidates();
        order();
        goingOn();
        proof();
        keep();
        keepFull();
        full();
        due.end();
    }

    private static void shortest() {
        due.promise(35, "shortest");
        FormMill mill = Due.with("form; yes a; must whole b 3 7; must yes c; check 1 b > 3;");
        due.is("shortest(1, 1)", mill.shortest(1, 1), FormMill.BAD);
        due.is("shortest(-1, 1)", mill.shortest(-1, 1), FormMill.BAD);
        due.is("shortest(0, 0)", mill.shortest(0, 0), FormMill.BAD);
        due.is("shortest(0, 101)", mill.shortest(0, 101), FormMill.BAD);
        due.is("shortest(0, 100)", mill.shortest(0, 100), 102);
        due.is("shortest() of a form without parts", Due.form(mill, "form;"), 1);
        due.is("shortest(1, 1)", mill.shortest(1, 1), 100);
        Due.form(mill, "form; check 1 0;");
        due.is("shortest(2, 1): none, and it was the last", mill.shortest(2, 1), 1);
        Due.form(mill, "form; must text t 1; yes a;");
        due.is("shortest(3, 2)", mill.shortest(3, 2), 2);
        due.is("shortest(3, 1): the last one", mill.shortest(3, 1), 1);
        due.is("shortest(3, 100): from the beginning", mill.shortest(3, 100), 1);
        due.is("proof(1)", mill.proof(1), 2);
        Due.form(mill, "form;" + yes(8) + "check 1 0;");
        due.is("shortest(4, 100): 8 parts with candidates", mill.shortest(4, 100), 2);
        Due.form(mill, "form;" + yes(9));
        due.is("shortest(5, 100): 9", mill.shortest(5, 100), FormMill.BAD);
        Due.form(mill, "form;" + yes(8) + "text t 1; table u 1 1; list v 1; signed w 1; entry x; group y { }");
        due.is("shortest(6, 1): others have none", mill.shortest(6, 1), 100);
        due.is("findings are left", mill.finding(0, 0), -100);
        due.is("told() is left", mill.told(0), 0);
    }

    private static String yes(int n) {
        StringBuilder all = new StringBuilder();
        for (int i = 0; i < n; i++) {
            all.append("yes a").append(i).append(";");
        }
        return all.toString();
    }

    private static void candidates(String part, int fillings, String check, long... kept) {
        FormMill mill = Due.with("form; " + part + "; check 1 0;");
        due.is("shortest() of " + part, mill.shortest(0, 100), 1);
        due.is("fillings of " + part, mill.proof(1), fillings);
        FormMill found = Due.with("form; " + part + "; check 1 " + check + ";");
        due.is("shortest() of " + part + " with " + check, found.shortest(0, 100), 101);
        due.is("keep()", found.keep(), 0);
        due.is("items", found.item(0, 0, -1), kept.length);
        for (int i = 0; i < kept.length; i++) {
            due.is("item " + i + " of " + part, found.item(0, 0, i), kept[i]);
        }
    }

    private static void candidates() {
        due.promise(35, "shortest: candidates");
        candidates("yes a", 2, "has a", 0);
        candidates("yes a", 2, "try a else 0", 1);
        candidates("whole a 3 8", 2, "has a", 3);
        candidates("whole a 3 8", 2, "try (a > 3) else 0", 8);
        candidates("whole a 5 5", 1, "has a", 5);
        candidates("date a 3 8", 2, "has a", 3);
        candidates("date a 3 8", 2, "has a and a > 3", 8);
        candidates("date a 5 5", 1, "has a", 5);
        candidates("choice a 5", 5, "has a", 0);
        candidates("choice a 5", 5, "has a and a > 2", 3);
        candidates("choice a 5", 5, "has a and a = 4", 4);
        candidates("money a 9", 2, "has a", 0);
        candidates("money a 9", 2, "has a and a > 0", 9);
        candidates("money a 0", 2, "has a", 0);
        candidates("many a 3 0 3", 2, "has a", 0, 0, 0);
        candidates("many a 3 1 3", 2, "has a", 1, 1, 1);
        FormMill sorts = Due.with("form; must yes a; must whole b 1 2; must date c 1 2; must choice d 2; must money e 1; must many f 2 0 2;");
        due.is("shortest()", sorts.shortest(0, 100), 2);
        for (int i = 0; i < 8; i++) {
            int answer = sorts.shortest(0, 100);
            if (answer != 2) {
                due.is("shortest()", answer, 106);
                break;
            }
        }
        due.is("keep()", sorts.keep(), 0);
        int[] kinds = {0, 1, 1, 1, 2, 0};
        for (int p = 0; p < 6; p++) {
            due.is("kindOf(0, " + p + ")", sorts.kindOf(0, p), kinds[p]);
        }
    }

    /** All fillings of 4 parts in their order, as sums that one figure would tell: found one by one, by its number. */
    private static void order() {
        due.promise(35, "shortest: order");
        int[] counts = {2, 3, 1, 2};
        int[] weights = {1000, 100, 10, 1};
        List<Integer> codes = new ArrayList<>();
        List<Integer> sizes = new ArrayList<>();
        for (int m = 0; m <= 4; m++) {
            List<int[]> sets = new ArrayList<>();
            sets(counts.length, m, 0, new int[m], 0, sets);
            for (int[] set : sets) {
                choices(counts, weights, set, 0, 0, codes, sizes);
            }
        }
        String parts = "form; yes a; group g { choice b 3; text t 1; } whole c 0 0; money d 1;";
        String code = "(try (1 + a) else 0) * 1000 + (try (1 + b) else 0) * 100 + (try (1 + c) else 0) * 10 + (try (1 + d) else 0)";
        for (int k = 0; k < codes.size(); k++) {
            FormMill mill = Due.with(parts + "check 1 " + code + " = " + codes.get(k) + ";");
            if (k > 0) {
                due.is("shortest(0, " + k + ")", mill.shortest(0, k), 2);
            }
            due.is("filling " + k + " of code " + codes.get(k), mill.shortest(0, 1), 100 + sizes.get(k));
        }
        due.is("how many there are", codes.size(), 72);
    }

    private static void sets(int n, int m, int from, int[] set, int at, List<int[]> sets) {
        if (at == m) {
            sets.add(set.clone());
            return;
        }
        for (int p = from; p < n; p++) {
            set[at] = p;
            sets(n, m, p + 1, set, at + 1, sets);
        }
    }

    private static void choices(int[] counts, int[] weights, int[] set, int at, int code, List<Integer> codes, List<Integer> sizes) {
        if (at == set.length) {
            codes.add(code);
            sizes.add(set.length);
            return;
        }
        for (int c = 0; c < counts[set[at]]; c++) {
            choices(counts, weights, set, at + 1, code + weights[set[at]] * (c + 1), codes, sizes);
        }
    }

    private static void goingOn() {
        due.promise(35, "shortest: going on");
        FormMill mill = Due.with("form; yes a; yes b; yes c; check 1 try (a and b and c) else 0;");
        Due.form(mill, "form; yes a; check 1 0;");
        due.is("shortest(0, 5)", mill.shortest(0, 5), 2);
        due.is("proof(1)", mill.proof(1), 4);
        due.is("shortest(0, 0): BAD leaves it", mill.shortest(0, 0), FormMill.BAD);
        due.is("shortest(9, 1): BAD leaves it", mill.shortest(9, 1), FormMill.BAD);
        due.is("shortest(0, 5)", mill.shortest(0, 5), 2);
        due.is("proof(1)", mill.proof(1), 6);
        due.is("proof(2)", mill.proof(2), 3);
        due.is("shortest(1, 1): another form", mill.shortest(1, 1), 2);
        due.is("proof(2): its own", mill.proof(2), 0);
        due.is("shortest(0, 26): from the beginning", mill.shortest(0, 26), 2);
        due.is("shortest(0, 1)", mill.shortest(0, 1), 103);
        due.is("proof(3)", mill.proof(3), 8);
        due.is("shortest(0, 1): behind a found one from the beginning", mill.shortest(0, 1), 2);
        due.is("proof(0)", mill.proof(0), 1);
        due.is("proof(3)", mill.proof(3), 0);
        due.is("keep(): none is found now", mill.keep(), FormMill.STATE);
        due.is("shortest(0, 26)", mill.shortest(0, 26), 103);
    }

    private static void proof() {
        due.promise(36, "proof");
        FormMill mill = Due.with("form; yes a; choice b 3; money c 5; check 1 0;");
        for (int m = 0; m <= 8; m++) {
            due.is("proof(" + m + ") ahead of any", mill.proof(m), 0);
        }
        due.is("proof(-1)", mill.proof(-1), -1);
        due.is("proof(9)", mill.proof(9), -1);
        due.is("shortest(0, 3)", mill.shortest(0, 3), 2);
        due.is("proof(0)", mill.proof(0), 1);
        due.is("proof(1)", mill.proof(1), 2);
        due.is("shortest(0, 100)", mill.shortest(0, 100), 1);
        int[] want = {1, 7, 16, 12, 0, 0, 0, 0, 0};
        for (int m = 0; m <= 8; m++) {
            due.is("proof(" + m + ")", mill.proof(m), want[m]);
        }
        Due.form(mill, "form;" + yes(8) + "check 1 0;");
        int answer = 2;
        int calls = 0;
        while (answer == 2 && calls < 100) {
            answer = mill.shortest(1, 100);
            calls++;
        }
        due.is("the last answer", answer, 1);
        due.is("6561 fillings", calls, 66);
        int[] all = {1, 16, 112, 448, 1120, 1792, 1792, 1024, 256};
        for (int m = 0; m <= 8; m++) {
            due.is("proof(" + m + ")", mill.proof(m), all[m]);
        }
    }

    private static void keep() {
        due.promise(37, "keep");
        FormMill mill = Due.with("form; must yes a; text t 1; must choice b 3; yes c; check 1 b > 0; check 2 a;");
        due.is("keep() ahead of any", mill.keep(), FormMill.STATE);
        due.is("shortest(0, 5)", mill.shortest(0, 5), 2);
        due.is("keep()", mill.keep(), FormMill.STATE);
        due.is("shortest(0, 100)", mill.shortest(0, 100), 102);
        mill.desk(4, 1);
        due.is("keep()", mill.keep(), 0);
        due.is("the desk is left", mill.sort(), 4);
        due.is("count(2)", mill.count(2), 1);
        due.is("count(8)", mill.count(8), 2);
        due.is("item(0, 0, 0)", mill.item(0, 0, 0), 1);
        due.is("item(0, 2, 0)", mill.item(0, 2, 0), 1);
        due.is("kindOf(0, 3)", mill.kindOf(0, 3), FormMill.NONE);
        due.is("check(0)", mill.check(0), 0);
        due.is("keep() once more", mill.keep(), 1);
        due.is("takeBack(0)", mill.takeBack(0), 2);
        due.is("takeBack(0)", mill.takeBack(0), 0);
        due.is("takeBack(0)", mill.takeBack(0), FormMill.STATE);
        due.is("item(1, 2, 0): each its own", mill.item(1, 2, 0), 1);
        due.is("shortest(0, 0) is refused", mill.shortest(0, 0), FormMill.BAD);
        due.is("keep()", mill.keep(), 2);
        due.is("shortest(0, 1)", mill.shortest(0, 1), 2);
        due.is("keep()", mill.keep(), FormMill.STATE);
        due.is("shortest(0, 100)", mill.shortest(0, 100), 102);
        due.is("item(2, 0, 0) is not touched by tries", mill.item(2, 0, 0), 1);
        Due.form(mill, "form; check 1 0;");
        due.is("shortest(1, 1)", mill.shortest(1, 1), 1);
        due.is("keep()", mill.keep(), FormMill.STATE);
        Due.form(mill, "form;");
        due.is("shortest(2, 1)", mill.shortest(2, 1), 100);
        due.is("keep() of no answers", mill.keep(), 3);
        due.is("submit(3, 0)", mill.submit(3, 0), 1);
        due.is("stats(0, 0, 0): it is of form 2", mill.stats(0, 0, 0), 0);
    }

    private static void keepFull() {
        due.promise(37, "keep: FULL");
        FormMill mill = Due.with("form; must yes a; must yes b;");
        mill.shortest(0, 100);
        mill.draft(0);
        for (int i = 0; i < 399; i++) {
            mill.give(0, 0);
        }
        due.is("keep(): it would be 401 givings", mill.keep(), FormMill.FULL);
        due.is("count(2)", mill.count(2), 1);
        due.is("count(8)", mill.count(8), 399);
        due.is("give(0, 0)", mill.give(0, 0), 400);
        due.is("keep()", mill.keep(), FormMill.FULL);
        Due.form(mill, "form;");
        due.is("shortest(1, 1)", mill.shortest(1, 1), 100);
        due.is("keep() of no answers", mill.keep(), 1);
        FormMill other = Due.with("form; must yes a; must yes b;");
        other.shortest(0, 100);
        other.draft(0);
        for (int i = 0; i < 398; i++) {
            other.give(0, 0);
        }
        due.is("keep(): 400 givings", other.keep(), 1);
        due.is("count(8)", other.count(8), 400);
        FormMill drafts = Due.with("form;");
        drafts.shortest(0, 1);
        for (int i = 0; i < 30; i++) {
            due.is("keep()", drafts.keep(), i);
        }
        due.is("keep(): 30 drafts", drafts.keep(), FormMill.FULL);
        drafts.shortest(0, 1);
        Due.form(drafts, "form; check 1 0;");
        drafts.shortest(1, 1);
        due.is("keep(): STATE ahead of FULL", drafts.keep(), FormMill.STATE);
    }

    private static void full() {
        due.promise(35, "the 10000th failure");
        FormMill mill = Failing.upTo(9977);
        int before = mill.proof(0) + mill.proof(1) + mill.proof(2) + mill.proof(3) + mill.proof(4);
        due.is("shortest(1, 5): FULL, a filling ahead", mill.shortest(1, 5), FormMill.FULL);
        due.is("count(7): two fillings more", mill.count(7), 10001);
        int behind = mill.proof(0) + mill.proof(1) + mill.proof(2) + mill.proof(3) + mill.proof(4);
        due.promise(36, "what was tried stays tried");
        due.is("proofs", behind, before + 2);
        due.is("shortest(1, 5)", mill.shortest(1, 5), FormMill.FULL);
        due.is("shortest(0, 1): asked ahead of all", mill.shortest(0, 1), FormMill.FULL);
        due.is("shortest(0, 0)", mill.shortest(0, 0), FormMill.BAD);
        due.is("proof(0)", mill.proof(0), 1);
        FormMill last = Failing.upTo(9989);
        due.promise(35, "the 10000th failure");
        due.is("shortest(1, 1): its work is done", last.shortest(1, 1), 2);
        due.is("count(7)", last.count(7), 10001);
        due.promise(37, "the 10000th failure");
        FormMill kept = Failing.upTo(9999);
        Due.form(kept, "form; must yes a;");
        due.is("shortest(2, 2)", kept.shortest(2, 2), 101);
        due.is("figure(0, 0)", kept.figure(0, 0), 1);
        due.is("shortest(1, 1): refused", kept.shortest(1, 1), FormMill.FULL);
        due.is("keep(): it can't fail", kept.keep(), 2);
        due.is("kindOf(2, 0)", kept.kindOf(2, 0), 0);
    }
}
