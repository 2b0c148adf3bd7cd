/** Promises 1 to 6 and what section 2 says of values: numbers and formulas told, cleared, copied, filled. */
public final class ToldTest {
    private static final Check check = new Check("ToldTest");

    private ToldTest() {
    }

    public static void main(String[] args) {
        newObject();
        numbers();
        formulas();
        wrongFormulas();
        functionsOfTwo();
        choice();
        functionsOfRanges();
        find();
        circles();
        great();
        clears();
        copies();
        fills();
        check.end();
    }

    private static void newObject() {
        check.promise(1);
        TabulaWorks x = new TabulaWorks();
        for (int sheet = 0; sheet < 2; sheet++) {
            for (int cell = 0; cell < 60; cell++) {
                check.is(x.ofCell(sheet, cell, 0), 0);
                check.is(x.value(sheet, cell), 0.0);
                check.is(x.words(sheet, cell) + x.text(sheet, cell), "");
                check.is(x.ofCell(sheet, cell, 3), 2);
                check.is(x.ofCell(sheet, cell, 4), 0);
            }
            check.is(x.ofSheet(sheet, 5), 0);
        }
        check.is(x.many(4), 0);
        check.is(x.many(2) + x.many(3) + x.many(5), 0);
        check.is(x.ofName(0, 0) + x.ofName(1, 0) + x.ofName(2, 0), -3);
        check.is(x.isSound(), true);
    }

    private static void numbers() {
        check.promise(2);
        TabulaWorks x = new TabulaWorks();
        check.is(x.number(0, 0, 7), 0);
        check.is(x.value(0, 0), 1.75);
        check.is(x.number(1, 59, -100000), 0);
        check.is(x.value(1, 59), -25000.0);
        check.is(x.number(1, 59, 100000), 0);
        check.is(x.value(1, 59), 25000.0);
        Check.tell(x, "B1", "=PLUS(A1,4q)");
        Check.tell(x, "B2", "=TIMES(A1,0q)");
        Check.tell(x, "B3", "=LESS(B1,A1)");
        // B1 alone: B2 stays 0.0 and B3 stays 1.0.
        check.is(x.number(0, 0, 8), 1);
        check.is(x.number(0, 0, 8), 0);
        // A formula that is told over counts no more.
        check.is(Check.put(x, "B1", 0), 1);
        check.is(x.ofCell(0, 1, 0), 1);
        x.hold(true);
        check.is(x.number(0, 0, 40), 0);
        check.is(x.value(0, 0), 2.0);
        x.hold(false);
        x.lock(0, 0, true);
        check.fails(x, Check.STATE, () -> x.number(0, 0, 8));
        check.fails(x, Check.ARGUMENT, () -> x.number(0, 0, 100001));
        check.fails(x, Check.ARGUMENT, () -> x.number(0, 1, -100001));
        check.fails(x, Check.INDEX, () -> x.number(2, 0, 100001));
        check.fails(x, Check.INDEX, () -> x.number(-1, 0, 0));
        check.fails(x, Check.INDEX, () -> x.number(0, 60, 0));
        check.fails(x, Check.INDEX, () -> x.number(0, Integer.MIN_VALUE, 0));
    }

    private static void formulas() {
        check.promise(3);
        TabulaWorks x = new TabulaWorks();
        check.is(x.formula(0, 0, 0, -1000, -1, 99999), 0);
        check.is(x.words(0, 0), "=PLUS(-500q,499q)");
        check.is(x.value(0, 0), -0.25);
        check.is(x.formula(0, 1, 3, 0, -500, 0), 2);
        check.is(x.formula(0, 2, 9, 480, 99999, -99999), 3);
        check.is(x.words(0, 2), "=SUM(N0)");
        check.is(x.formula(0, 3, 15, 482, 99999, -500), 3);
        check.is(x.words(0, 3), "=FIND(N2,0q)");
        check.is(x.formula(1, 4, 15, 60, 479, 482), 1);
        check.is(x.words(1, 4), "=FIND(A1:$F$10,N2)");
        x.hold(true);
        check.is(x.formula(0, 5, 0, -500, -500, 0), -1);
        check.is(x.ofCell(0, 5, 0), 2);
        check.is(x.text(0, 5), "");
    }

    private static void wrongFormulas() {
        check.promise(3);
        TabulaWorks x = new TabulaWorks();
        check.fails(x, Check.ARGUMENT, () -> x.formula(0, 0, 16, 0, 0, 0));
        check.fails(x, Check.ARGUMENT, () -> x.formula(0, 0, -1, 0, 0, 0));
        check.fails(x, Check.ARGUMENT, () -> x.formula(0, 0, 0, 483, 0, 0));
        check.fails(x, Check.ARGUMENT, () -> x.formula(0, 0, 0, 0, -1001, 0));
        check.fails(x, Check.ARGUMENT, () -> x.formula(0, 0, 8, 0, 0, 483));
        check.fails(x, Check.ARGUMENT, () -> x.formula(0, 0, 15, 480, 0, 483));
        check.fails(x, Check.ARGUMENT, () -> x.formula(0, 0, 9, -1, 0, 0));
        check.fails(x, Check.ARGUMENT, () -> x.formula(0, 0, 9, 0, -1, 0));
        check.fails(x, Check.ARGUMENT, () -> x.formula(0, 0, 9, 0, 480, 0));
        check.fails(x, Check.ARGUMENT, () -> x.formula(0, 0, 14, 0, 60, 0));
        check.fails(x, Check.INDEX, () -> x.formula(0, 60, 16, 0, 0, 0));
        check.fails(x, Check.INDEX, () -> x.formula(2, 0, 0, 0, 0, 0));
        x.lock(0, 0, true);
        check.fails(x, Check.STATE, () -> x.formula(0, 0, 0, 0, 0, 0));
        check.fails(x, Check.ARGUMENT, () -> x.formula(0, 0, 16, 0, 0, 0));
        check.is(x.formula(0, 1, 9, 0, 120, 9999), 0);
    }

    private static double made(String words) {
        TabulaWorks x = new TabulaWorks();
        Check.put(x, "A1", 6);
        Check.put(x, "A2", -8);
        x.name(0, 0, Check.at("C3"), Check.at("A1"));
        check.is(Check.tell(x, "F9", words), 0);
        check.is(x.words(0, Check.at("F9")), words);
        return Check.value(x, "F9");
    }

    private static void functionsOfTwo() {
        check.promise(3);
        check.is(made("=PLUS(A1,A2)"), -0.5);
        check.is(made("=LESS(A1,A2)"), 3.5);
        check.is(made("=TIMES(A1,A2)"), -3.0);
        check.is(made("=BY(A1,A2)"), -0.75);
        check.is(made("=LESSER(A1,A2)"), -2.0);
        check.is(made("=GREATER(A1,A2)"), 1.5);
        check.is(made("=BELOW(A1,A2)"), 0.0);
        check.is(made("=BELOW(A2,A1)"), 1.0);
        check.is(made("=BELOW(A2,A2)"), 0.0);
        check.is(made("=SAME(A1,6q)"), 1.0);
        check.is(made("=SAME(A1,A2)"), 0.0);
        check.is(made("=SAME(B1,0q)"), 1.0);
        check.is(made("=PLUS(N0,N0)"), 3.0);
        // No -0.0 comes about.
        check.is(made("=TIMES(0q,A2)"), 0.0);
        check.is(made("=BY(0q,A2)"), 0.0);
        TabulaWorks x = new TabulaWorks();
        Check.tell(x, "A1", "=BY(4q,0q)");
        check.is(Check.tell(x, "A2", "=PLUS(N1,A1)"), 3);
        check.is(Check.tell(x, "A3", "=PLUS(A1,N1)"), 2);
        check.is(Check.tell(x, "A4", "=BY(N1,0q)"), 3);
    }

    private static void choice() {
        check.promise(3);
        TabulaWorks x = new TabulaWorks();
        Check.tell(x, "A1", "=BY(4q,0q)");
        check.is(Check.tell(x, "B1", "=CHOICE(1q,8q,A1)"), 0);
        check.is(Check.value(x, "B1"), 2.0);
        check.is(Check.tell(x, "B2", "=CHOICE(0q,A1,12q)"), 0);
        check.is(Check.value(x, "B2"), 3.0);
        check.is(Check.tell(x, "B3", "=CHOICE(F1,A1,F2)"), 0);
        check.is(Check.tell(x, "B4", "=CHOICE(-1q,A1,F2)"), 2);
        check.is(Check.tell(x, "B5", "=CHOICE(A1,1q,1q)"), 2);
        check.is(Check.tell(x, "B6", "=CHOICE(0q,1q,N0)"), 3);
        check.is(Check.ask(x, "B3", 6), 3);
    }

    private static void functionsOfRanges() {
        check.promise(3);
        TabulaWorks x = new TabulaWorks();
        int[] quarters = {4, -12, 2};
        String[] cells = {"A1", "B1", "B3"};
        for (int k = 0; k < 3; k++) {
            Check.put(x, cells[k], quarters[k]);
        }
        String[] words = {"SUM", "COUNT", "MEAN", "LEAST", "MOST", "SHOWN"};
        double[] due = {-1.5, 3.0, -0.5, -3.0, 1.0, -1.5};
        for (int k = 0; k < words.length; k++) {
            check.is(Check.tell(x, "E5", "=" + words[k] + "(B1:A3)"), 0);
            check.is(Check.value(x, "E5"), due[k]);
        }
        x.hide(0, 0, true);
        check.is(Check.value(x, "E5"), 0.5);
        for (int k = 0; k < words.length; k++) {
            check.is(Check.tell(x, "E5", "=" + words[k] + "(C1:C3)"), k == 2 ? 2 : 0);
            check.is(Check.value(x, "E5"), 0.0);
        }
        // The first error by the cells' numbers; SHOWN looks into rows that are not hidden alone.
        Check.tell(x, "C1", "=BY(1q,0q)");
        Check.tell(x, "B2", "=PLUS(N0,N0)");
        check.is(Check.tell(x, "E5", "=COUNT(A1:C3)"), 2);
        check.is(Check.tell(x, "E5", "=SHOWN(A1:C3)"), 3);
        x.hide(0, 1, true);
        check.is(Check.error(x, "E5"), 0);
        check.is(Check.value(x, "E5"), 0.5);
        x.name(0, 0, Check.at("B1"), Check.at("A1"));
        check.is(Check.tell(x, "E5", "=LEAST(N0)"), 0);
        check.is(Check.value(x, "E5"), -3.0);
        check.is(Check.tell(x, "E6", "=LEAST(N1)"), 3);
    }

    private static void find() {
        check.promise(3);
        TabulaWorks x = new TabulaWorks();
        Check.put(x, "A2", 4);
        Check.put(x, "C2", 20);
        Check.put(x, "A3", 4);
        Check.put(x, "C3", 24);
        Check.put(x, "A4", 8);
        Check.tell(x, "A5", "=BY(1q,0q)");
        Check.put(x, "A6", 12);
        Check.tell(x, "C6", "=FIND(A1:A2,99q)");
        check.is(Check.error(x, "C6"), 4);
        check.is(Check.tell(x, "E1", "=FIND(A1:C6,4q)"), 0);
        check.is(Check.value(x, "E1"), 5.0);
        check.is(Check.tell(x, "E2", "=FIND(C6:A3,4q)"), 0);
        check.is(Check.value(x, "E2"), 6.0);
        check.is(Check.tell(x, "E3", "=FIND(A1:C6,8q)"), 0);
        check.is(Check.value(x, "E3"), 0.0);
        check.is(Check.tell(x, "E4", "=FIND(A1:C6,12q)"), 4);
        // What is empty is no 0.0 in the range, but is one as THREE.
        check.is(Check.tell(x, "E5", "=FIND(A1:C6,F1)"), 4);
        Check.put(x, "A1", 0);
        check.is(Check.error(x, "E5"), 0);
        check.is(Check.tell(x, "E6", "=FIND(A1:C6,A5)"), 2);
        check.is(Check.tell(x, "E7", "=FIND(N0,A5)"), 2);
        check.is(Check.tell(x, "E8", "=FIND(N0,1q)"), 3);
        check.is(Check.tell(x, "E9", "=FIND(A1:C6,N0)"), 3);
        check.is(Check.tell(x, "F9", "=FIND(A4:A4,8q)"), 0);
        check.is(Check.value(x, "F9"), 2.0);
    }

    private static void circles() {
        check.promise(3);
        TabulaWorks x = new TabulaWorks();
        check.is(Check.tell(x, "A1", "=PLUS(A1,1q)"), 1);
        check.is(Check.tell(x, "A2", "=SUM(A1:A1)"), 1);
        check.is(x.many(6), 1);
        check.is(Check.tell(x, "B1", "=CHOICE(1q,1q,B2)"), 0);
        check.is(Check.tell(x, "B2", "=FIND(B1:C3,1q)"), 1);
        check.is(Check.error(x, "B1"), 1);
        check.is(x.many(6), 3);
        // A circle goes ahead of every other error, and through both sheets and names.
        check.is(Check.tell(x, "D1", "=PLUS(N2,S1!D1)"), 3);
        check.is(Check.tell(x, 1, "D1", "=SHOWN(S1!D1:S1!E2)"), 1);
        check.is(Check.error(x, "D1"), 3);
        check.is(Check.tell(x, 1, "D1", "=MEAN(D1:E2)"), 1);
        check.is(Check.error(x, "D1"), 1);
        x.name(0, 0, Check.at("F3"), Check.at("E2"));
        check.is(Check.tell(x, "E2", "=PLUS(N0,1q)"), 1);
        check.is(Check.tell(x, "E3", "=PLUS(N0,1q)"), 1);
        check.is(Check.tell(x, "E3", "=CHOICE(0q,N0,1q)"), 0);
        check.is(x.hide(0, 9, true), false);
        check.is(Check.tell(x, "A10", "=SHOWN(A10:B10)"), 1);
    }

    private static void great() {
        check.promise(3);
        TabulaWorks x = new TabulaWorks();
        Check.put(x, "A1", 100000);
        check.is(Check.tell(x, "A2", "=TIMES(A1,A1)"), 0);
        check.is(Check.tell(x, "A3", "=TIMES(A2,4q)"), 0);
        // 625000000 and 1000000000 just, and more than that.
        check.is(Check.tell(x, "A4", "=TIMES(A1,160q)"), 0);
        check.is(Check.tell(x, "A5", "=TIMES(A4,A4)"), 5);
        check.is(Check.tell(x, "B1", "=TIMES(A4,400q)"), 0);
        check.is(Check.tell(x, "B2", "=TIMES(B1,40q)"), 0);
        check.is(Check.value(x, "B2"), 1000000000.0);
        check.is(Check.tell(x, "B3", "=PLUS(B2,1q)"), 5);
        check.is(Check.tell(x, "B4", "=LESS(-1q,B2)"), 5);
        check.is(Check.tell(x, "B5", "=LESS(0q,B2)"), 0);
        check.is(Check.tell(x, "C1", "=PLUS(B2,0q)"), 0);
        check.is(Check.tell(x, "D1", "=SUM(B2:C2)"), 0);
        Check.tell(x, "C2", "=PLUS(B2,0q)");
        check.is(Check.error(x, "D1"), 5);
        check.is(Check.tell(x, "D2", "=MEAN(B2:C2)"), 0);
        check.is(Check.value(x, "D2"), 1000000000.0);
        check.is(Check.tell(x, "D3", "=SHOWN(B2:C2)"), 5);
    }

    private static void clears() {
        check.promise(4);
        TabulaWorks x = new TabulaWorks();
        check.is(x.clear(0, 0), false);
        Check.put(x, "A1", 0);
        check.is(x.clear(0, 0), true);
        check.is(x.ofCell(0, 0, 0), 0);
        Check.tell(x, "A1", "=PLUS(1q,1q)");
        check.is(x.clear(0, 0), true);
        check.is(x.text(0, 0) + x.words(0, 0), "");
        check.is(x.many(2), 5);
        x.lock(0, 0, true);
        check.fails(x, Check.STATE, () -> x.clear(0, 0));
        check.fails(x, Check.INDEX, () -> x.clear(0, 60));
        check.fails(x, Check.INDEX, () -> x.clear(2, 0));
    }

    private static void copies() {
        check.promise(5);
        TabulaWorks x = new TabulaWorks();
        Check.tell(x, "C3", "=CHOICE(B2,$B2,B$2)");
        check.is(x.copy(0, Check.at("C3"), 0, Check.at("D5")), 0);
        check.is(Check.words(x, "D5"), "=CHOICE(C4,$B4,C$2)");
        check.is(x.copy(0, Check.at("C3"), 0, Check.at("B1")), 2);
        check.is(Check.words(x, "B1"), "=CHOICE(?,?,A$2)");
        check.is(x.copy(0, Check.at("B1"), 0, Check.at("E5")), 2);
        check.is(Check.words(x, "E5"), "=CHOICE(?,?,D$2)");
        check.is(x.copy(0, Check.at("C3"), 1, Check.at("A3")), 2);
        check.is(x.words(1, Check.at("A3")), "=CHOICE(?,S0!$B2,?)");
        check.is(x.copy(0, Check.at("C3"), 0, Check.at("C3")), 0);
        check.is(Check.words(x, "C3"), "=CHOICE(B2,$B2,B$2)");
        Check.tell(x, "A1", "=FIND(N1,$E$10)");
        check.is(x.copy(0, 0, 0, 59), 0);
        check.is(x.words(0, 59), "=FIND(N1,$E$10)");
        Check.tell(x, "A2", "=CHOICE(F10,E10,F9)");
        check.is(x.copy(0, 6, 0, 7), 2);
        check.is(Check.words(x, "B2"), "=CHOICE(?,F10,?)");
        check.is(x.copy(0, 6, 0, 12), 2);
        check.is(Check.words(x, "A3"), "=CHOICE(?,?,F10)");
        Check.put(x, "A1", 5);
        check.is(x.copy(0, 0, 1, 59), 0);
        check.is(x.words(1, 59), "5q");
        check.is(x.copy(0, 1, 1, 59), 2);
        check.is(x.copy(0, Check.at("F9"), 1, 59), 0);
        check.is(x.words(1, 59), "");
        x.digits(0, 0, 0);
        x.lock(0, 0, true);
        check.is(x.copy(0, 0, 0, 2), 0);
        check.is(x.ofCell(0, 2, 3), 2);
        check.is(x.ofCell(0, 2, 4), 0);
        check.fails(x, Check.STATE, () -> x.copy(0, 2, 0, 0));
        check.fails(x, Check.STATE, () -> x.copy(0, 0, 0, 0));
        check.fails(x, Check.INDEX, () -> x.copy(0, 60, 0, 0));
        check.fails(x, Check.INDEX, () -> x.copy(0, 0, 2, 0));
        check.fails(x, Check.INDEX, () -> x.copy(0, 0, 1, -1));
    }

    private static void fills() {
        check.promise(6);
        TabulaWorks x = new TabulaWorks();
        Check.tell(x, "C3", "=PLUS(C2,$A$1)");
        check.is(x.fill(0, Check.at("C3"), Check.at("B1")), 5);
        check.is(Check.words(x, "B1"), "=PLUS(?,$A$1)");
        check.is(Check.words(x, "B2"), "=PLUS(B1,$A$1)");
        check.is(Check.words(x, "C3"), "=PLUS(C2,$A$1)");
        check.is(x.fill(0, Check.at("C3"), Check.at("F10")), 31);
        check.is(Check.words(x, "F10"), "=PLUS(F9,$A$1)");
        check.is(x.fill(0, Check.at("C3"), Check.at("C3")), 0);
        check.is(x.many(2), 4);
        check.is(x.fill(0, Check.at("A10"), Check.at("F10")), 5);
        check.is(Check.words(x, "F10"), "");
        x.lock(0, Check.at("C3"), true);
        check.is(x.fill(0, Check.at("C3"), Check.at("C4")), 1);
        x.lock(0, Check.at("D4"), true);
        check.fails(x, Check.STATE, () -> x.fill(0, Check.at("C3"), Check.at("E5")));
        check.fails(x, Check.STATE, () -> x.fill(0, Check.at("C4"), Check.at("C3")));
        check.fails(x, Check.STATE, () -> x.fill(0, Check.at("B2"), Check.at("D4")));
        check.is(x.fill(0, Check.at("D4"), Check.at("E5")), 3);
        check.fails(x, Check.INDEX, () -> x.fill(0, 60, 0));
        check.fails(x, Check.INDEX, () -> x.fill(0, 0, 60));
        check.fails(x, Check.INDEX, () -> x.fill(-1, 0, 0));
    }
}
