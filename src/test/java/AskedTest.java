/** Promises 21 to 28: values, words, what is shown, who needs whom, counts, sums by groups. */
public final class AskedTest {
    private static final Check check = new Check("AskedTest");

    private AskedTest() {
    }

    public static void main(String[] args) {
        values();
        cells();
        needs();
        depths();
        words();
        texts();
        roundedTexts();
        sheets();
        names();
        manyThings();
        groups();
        check.end();
    }

    private static void values() {
        check.promise(21);
        TabulaWorks x = new TabulaWorks();
        Check.tell(x, "A1", "=BY(1q,-3q)");
        check.is(x.value(0, 0), 0.25 / -0.75);
        Check.tell(x, "A1", "=BY(1q,0q)");
        check.is(x.value(0, 0), 0.0);
        check.is(x.value(1, 59), 0.0);
        check.fails(x, Check.INDEX, () -> x.value(0, 60));
        check.fails(x, Check.INDEX, () -> x.value(0, -1));
        check.fails(x, Check.INDEX, () -> x.value(2, 0));
    }

    private static void cells() {
        check.promise(22);
        TabulaWorks x = new TabulaWorks();
        Check.put(x, "A1", 4);
        Check.tell(x, "A2", "=FIND(B1:C1,4q)");
        check.is(Check.ask(x, "A1", 0) * 100 + Check.ask(x, "A2", 0) * 10 + Check.ask(x, "A3", 0), 120);
        check.is(Check.ask(x, "A1", 1) * 100 + Check.ask(x, "A2", 1) * 10 + Check.ask(x, "A3", 1), 40);
        check.is(Check.ask(x, "A1", 2) + " " + Check.ask(x, "A2", 2) + " " + Check.ask(x, "A3", 2), "-1 15 -1");
        x.digits(0, 0, 1);
        x.lock(0, 0, true);
        check.is(Check.ask(x, "A1", 3) * 100 + Check.ask(x, "A1", 4) * 10 + Check.ask(x, "A2", 4), 110);
        x.hold(true);
        Check.tell(x, "A2", "=PLUS(B1,A3)");
        check.is(Check.ask(x, "A2", 5) * 10 + Check.ask(x, "A1", 5), 10);
        check.is(Check.ask(x, "A2", 1), 4);
        check.is(Check.ask(x, "A2", 2), 0);
        check.is(Check.ask(x, "A2", 6), 2);
        Check.put(x, "A3", 0);
        // Stale: it shows nothing, and would show 0.0.
        check.is(Check.ask(x, "A3", 5), 1);
        check.fails(x, Check.ARGUMENT, () -> x.ofCell(0, 0, 10));
        check.fails(x, Check.ARGUMENT, () -> x.ofCell(0, 0, -1));
        check.fails(x, Check.INDEX, () -> x.ofCell(0, 60, 10));
        check.fails(x, Check.INDEX, () -> x.ofCell(-1, 0, 0));
    }

    private static void needs() {
        check.promise(22);
        TabulaWorks x = new TabulaWorks();
        Check.tell(x, "A1", "=CHOICE(B1,B1,S1!B1)");
        check.is(Check.ask(x, "A1", 6), 2);
        Check.tell(x, "B1", "=FIND(C1:D4,C2)");
        check.is(Check.ask(x, "B1", 6), 8);
        check.is(Check.ask(x, "A1", 7), 10);
        Check.tell(x, "B1", "=FIND(C1:D4,E1)");
        check.is(Check.ask(x, "B1", 6), 9);
        x.hide(0, 1, true);
        Check.tell(x, "B1", "=SHOWN(C1:D4)");
        check.is(Check.ask(x, "B1", 6), 8);
        Check.tell(x, "B1", "=PLUS(N0,N1)");
        check.is(Check.ask(x, "B1", 6), 0);
        x.name(0, 0, Check.at("E3"), Check.at("D4"));
        check.is(Check.ask(x, "B1", 6), 1);
        check.is(Check.ask(x, "D3", 8), 1);
        check.is(Check.ask(x, "E3", 8), 0);
        Check.tell(x, "B1", "=COUNT(N0)");
        check.is(Check.ask(x, "B1", 6), 4);
        Check.tell(x, "B2", "=FIND(N1,N0)");
        check.is(Check.ask(x, "B2", 6), 1);
        check.is(Check.ask(x, "D3", 8), 2);
        check.is(Check.ask(x, "F6", 6) + Check.ask(x, "F6", 7) + Check.ask(x, "F6", 8), 0);
        // A range with a gone corner needs none of it, but THREE.
        Check.tell(x, "C2", "=FIND(A1:B1,F6)");
        x.copy(0, Check.at("C2"), 0, Check.at("B2"));
        check.is(Check.words(x, "B2"), "=FIND(?:A1,E6)");
        check.is(Check.ask(x, "B2", 6), 1);
        // All sixty cells of a sheet; itself counts, if one comes back to it.
        Check.tell(x, 1, "F10", "=SUM(S1!A1:S1!F10)");
        check.is(x.ofCell(1, 59, 6) + " " + x.ofCell(1, 59, 7) + " " + x.ofCell(1, 59, 8), "60 60 1");
        Check.tell(x, 1, "A1", "=SUM(A1:F10)");
        check.is(x.ofCell(1, 0, 7), 60 + 1);
        Check.tell(x, "F9", "=SUM(S1!A1:S1!F10)");
        check.is(x.ofCell(1, 59, 7), 120);
    }

    private static void depths() {
        check.promise(22);
        TabulaWorks x = new TabulaWorks();
        Check.put(x, "A1", 4);
        check.is(Check.ask(x, "A1", 9) + Check.ask(x, "F1", 9), 0);
        Check.tell(x, "A2", "=PLUS(1q,1q)");
        check.is(Check.ask(x, "A2", 9), 1);
        Check.tell(x, "A3", "=PLUS(A1,A2)");
        check.is(Check.ask(x, "A3", 9), 2);
        Check.tell(x, "A4", "=SUM(A1:A3)");
        check.is(Check.ask(x, "A4", 9), 3);
        Check.tell(x, "B1", "=PLUS(B1,A4)");
        Check.tell(x, "B2", "=CHOICE(1q,1q,B1)");
        check.is(Check.error(x, "B2"), 0);
        check.is(Check.ask(x, "B1", 9) + " " + Check.ask(x, "B2", 9), "-1 -1");
        // The longest chain: every cell of both sheets needs the one ahead of it.
        TabulaWorks y = new TabulaWorks();
        y.number(0, 0, 1);
        for (int place = 119; place >= 1; place--) {
            y.formula(place / 60, place % 60, 0, place - 1, -499, 0);
        }
        check.is(y.ofCell(1, 59, 9), 119);
        check.is(y.ofCell(1, 59, 7), 119);
        check.is(y.many(7), 119);
        check.is(y.value(1, 59), 30.0);
        check.is(y.number(0, 0, 5), 119);
        check.is(y.formula(0, 0, 0, 119, 119, 0), 1);
        check.is(y.many(6), 120);
        check.is(y.ofCell(1, 59, 7), 120);
        check.is(y.many(7), 0);
    }

    private static void words() {
        check.promise(23);
        TabulaWorks x = new TabulaWorks();
        String[] all = {"=PLUS(A1,$F10)", "=LESS(F$10,$F$1)", "=TIMES(-500q,499q)", "=BY(0q,N2)", "=LESSER(1q,-1q)",
            "=GREATER(N0,N1)", "=BELOW(S1!A1,S1!$B$2)", "=SAME(S1!$C3,S1!D$4)", "=CHOICE(A1,1q,N0)", "=SUM(A1:B2)",
            "=COUNT(N1)", "=MEAN($A$1:F$10)", "=LEAST(S1!A1:S1!B2)", "=MOST(F10:A1)", "=SHOWN(N0)",
            "=FIND(A1:B2,1q)", "=FIND(N0,S1!A1)"};
        for (String words : all) {
            Check.tell(x, "E5", words);
            check.is(Check.words(x, "E5"), words);
        }
        Check.tell(x, 1, "E5", "=FIND(S1!A1:S1!$B$2,A1)");
        check.is(x.words(1, Check.at("E5")), "=FIND(A1:$B$2,S0!A1)");
        Check.put(x, "E5", -100000);
        check.is(Check.words(x, "E5"), "-100000q");
        Check.put(x, "E5", 0);
        check.is(Check.words(x, "E5"), "0q");
        check.is(Check.words(x, "E6"), "");
        check.fails(x, Check.INDEX, () -> x.words(0, 60));
        check.fails(x, Check.INDEX, () -> x.words(2, 0));
    }

    private static String shown(int quarters, int digits) {
        TabulaWorks x = new TabulaWorks();
        x.number(0, 0, quarters);
        x.digits(0, 0, digits);
        return x.text(0, 0);
    }

    private static void texts() {
        check.promise(24);
        check.is(shown(5, 2), "1.25");
        check.is(shown(5, 1), "1.2");
        check.is(shown(7, 1), "1.8");
        check.is(shown(6, 0), "2");
        check.is(shown(2, 0), "0");
        check.is(shown(10, 0), "2");
        check.is(shown(-6, 0), "-2");
        check.is(shown(-2, 0), "0");
        check.is(shown(-1, 1), "-0.2");
        check.is(shown(-1, 2), "-0.25");
        check.is(shown(-5, 2), "-1.25");
        check.is(shown(0, 2) + shown(0, 1) + shown(0, 0), "0.000.00");
        check.is(shown(39999, 2), "9999.75");
        check.is(shown(40000, 2), "#");
        check.is(shown(-40000, 2), "#");
        check.is(shown(-39999, 2), "-9999.75");
        check.is(shown(40000, 1), "10000.0");
        check.is(shown(100000, 1), "25000.0");
        TabulaWorks x = new TabulaWorks();
        check.is(x.text(0, 0), "");
        Check.tell(x, "A1", "=PLUS(N0,N0)");
        check.is(x.text(0, 0), "!3");
        check.fails(x, Check.INDEX, () -> x.text(0, -1));
        check.fails(x, Check.INDEX, () -> x.text(-1, 0));
    }

    private static void roundedTexts() {
        check.promise(24);
        TabulaWorks x = new TabulaWorks();
        Check.tell(x, "A1", "=BY(8q,12q)");
        check.is(Check.text(x, "A1"), "0.67");
        Check.tell(x, "A1", "=BY(-8q,12q)");
        check.is(Check.text(x, "A1"), "-0.67");
        // -0.003.. shows no sign, as its whole number is 0.
        Check.tell(x, "A1", "=BY(-1q,300q)");
        check.is(Check.text(x, "A1"), "0.00");
        Check.tell(x, "A1", "=BY(1q,32q)");
        check.is(Check.text(x, "A1"), "0.03");
        // 0.125 and 0.375: just between two, to the even one.
        Check.tell(x, "A1", "=BY(2q,16q)");
        check.is(Check.text(x, "A1"), "0.12");
        Check.tell(x, "A1", "=BY(6q,16q)");
        check.is(Check.text(x, "A1"), "0.38");
        Check.tell(x, "A1", "=BY(-6q,16q)");
        check.is(Check.text(x, "A1"), "-0.38");
        Check.put(x, "B1", 100000);
        Check.tell(x, "A1", "=TIMES(B1,160q)");
        x.digits(0, 0, 0);
        check.is(Check.text(x, "A1"), "#");
        Check.tell(x, "B2", "=TIMES(B1,160q)");
        Check.tell(x, "A1", "=LESS(B2,4q)");
        check.is(Check.text(x, "A1"), "999999");
        Check.tell(x, "A1", "=LESS(B2,2q)");
        check.is(Check.text(x, "A1"), "#");
        Check.tell(x, "A1", "=LESS(4q,B2)");
        check.is(Check.text(x, "A1"), "-999999");
        Check.tell(x, "A1", "=TIMES(B2,B2)");
        check.is(Check.text(x, "A1"), "!5");
    }

    private static void sheets() {
        check.promise(25);
        TabulaWorks x = new TabulaWorks();
        for (int what = 0; what < 8; what++) {
            check.is(x.ofSheet(1, what), what < 6 ? 0 : -1);
        }
        Check.put(x, "A1", 4);
        check.is(x.ofSheet(0, 6) + x.ofSheet(0, 7), 0);
        x.clear(0, 0);
        Check.put(x, "B1", 4);
        Check.tell(x, "A7", "=PLUS(N0,N0)");
        Check.tell(x, "C2", "=PLUS(1q,1q)");
        x.lock(0, 59, true);
        x.lock(0, 58, true);
        x.hide(0, 0, true);
        x.hide(0, 9, true);
        x.hold(true);
        Check.put(x, "A7", 4);
        Check.put(x, "A6", 4);
        x.number(1, 0, 4);
        int[] due = {4, 1, 1, 2, 2, 513, 6, 2};
        for (int what = 0; what < 8; what++) {
            check.is(x.ofSheet(0, what), due[what]);
        }
        check.fails(x, Check.ARGUMENT, () -> x.ofSheet(0, 8));
        check.fails(x, Check.ARGUMENT, () -> x.ofSheet(0, -1));
        check.fails(x, Check.INDEX, () -> x.ofSheet(2, 8));
        check.fails(x, Check.INDEX, () -> x.ofSheet(-1, 0));
    }

    private static void names() {
        check.promise(26);
        TabulaWorks x = new TabulaWorks();
        int[] none = {-1, -1, -1, 0, 0};
        for (int what = 0; what < 5; what++) {
            check.is(x.ofName(2, what), none[what]);
        }
        x.name(2, 1, Check.at("F10"), Check.at("E1"));
        Check.tell(x, "A1", "=FIND(N2,N2)");
        Check.tell(x, "A2", "=CHOICE(0q,0q,N2)");
        int[] due = {1, 59, 4, 20, 2};
        for (int what = 0; what < 5; what++) {
            check.is(x.ofName(2, what), due[what]);
        }
        check.is(x.ofName(1, 4), 0);
        check.fails(x, Check.ARGUMENT, () -> x.ofName(0, 5));
        check.fails(x, Check.ARGUMENT, () -> x.ofName(0, -1));
        check.fails(x, Check.INDEX, () -> x.ofName(3, 5));
        check.fails(x, Check.INDEX, () -> x.ofName(-1, 0));
    }

    private static void manyThings() {
        check.promise(27);
        TabulaWorks x = new TabulaWorks();
        for (int what = 0; what < 8; what++) {
            check.is(x.many(what), 0);
        }
        Check.tell(x, "B1", "=CHOICE(A1,A2,B3)");
        Check.tell(x, 1, "B1", "=SUM(S1!A1:S1!A2)");
        x.copy(1, 1, 1, 0);
        x.copy(0, 1, 1, 2);
        x.copy(0, 1, 0, 6);
        Check.tell(x, "F1", "=PLUS(F2,F1)");
        Check.tell(x, "F2", "=PLUS(F3,F1)");
        Check.tell(x, "F3", "=PLUS(F4,F2)");
        Check.tell(x, "F5", "=PLUS(F4,F2)");
        x.undo();
        x.ring();
        x.hold(true);
        // What is gone: two of S1!A1, two of A2.
        int[] due = {8, 4, 7, 1, 1, 1, 3, 3};
        for (int what = 0; what < 8; what++) {
            check.is(x.many(what), due[what]);
        }
        check.fails(x, Check.ARGUMENT, () -> x.many(8));
        check.fails(x, Check.ARGUMENT, () -> x.many(-1));
    }

    private static void groups() {
        check.promise(28);
        TabulaWorks x = new TabulaWorks();
        int[] keys = {8, -4, 8, 0, -4, 8, 12};
        for (int row = 0; row < keys.length; row++) {
            x.number(0, row * 6, keys[row]);
            x.number(0, row * 6 + 2, row + 1);
        }
        x.clear(0, Check.at("C6"));
        Check.tell(x, "C7", "=PLUS(N0,N0)");
        x.hide(0, 3, true);
        double[] due = {-1.0, 1.75, 2.0, 2.0, 1.0, 2.0, 0.0, 0.0, 0.0};
        for (int k = 0; k < 9; k++) {
            check.is(x.group(0, 0, 2, k / 3, k % 3), due[k]);
        }
        check.is(x.group(0, 0, 2, 9, 2), 0.0);
        x.hide(0, 3, false);
        check.is(x.group(0, 0, 2, 1, 2), 1.0);
        check.is(x.group(0, 0, 0, 2, 1), 6.0);
        check.is(x.group(0, 0, 0, 3, 0), 3.0);
        check.is(x.group(1, 0, 0, 0, 2), 0.0);
        x.hold(true);
        Check.put(x, "A2", 40);
        check.is(x.group(0, 0, 2, 0, 2), 2.0);
        TabulaWorks y = new TabulaWorks();
        for (int row = 0; row < 10; row++) {
            y.number(1, row * 6 + 5, -row);
        }
        check.is(y.group(1, 5, 5, 9, 0), 0.0);
        check.is(y.group(1, 5, 5, 9, 2), 1.0);
        check.is(y.group(1, 5, 5, 0, 0), -2.25);
        check.fails(x, Check.ARGUMENT, () -> x.group(0, 0, 0, 10, 0));
        check.fails(x, Check.ARGUMENT, () -> x.group(0, 0, 0, -1, 0));
        check.fails(x, Check.ARGUMENT, () -> x.group(0, 0, 0, 0, 3));
        check.fails(x, Check.ARGUMENT, () -> x.group(0, 0, 0, 0, -1));
        check.fails(x, Check.INDEX, () -> x.group(0, 6, 0, 10, 0));
        check.fails(x, Check.INDEX, () -> x.group(0, 0, -1, 0, 3));
        check.fails(x, Check.INDEX, () -> x.group(2, 0, 0, 0, 0));
    }
}
