/** Sections 1 and 2 of the document at their edges: what cells, names and codes are, and values. */
public final class CellEdgesTest {
    private static final Check check = new Check("CellEdgesTest");

    private CellEdgesTest() {
    }

    public static void main(String[] args) {
        inOrder();
        noMinusZero();
        underflow();
        lastCalls();
        sheets();
        cellNumbers();
        emptyAtFirst();
        gone();
        namesAtFirst();
        ranges();
        rangesInOrder();
        noTwoWithName();
        asManyAsNeeded();
        codesOfNumbers();
        codesOfReferences();
        codesOfNames();
        nothing();
        ownValue();
        great();
        needsOfReferences();
        needsOfRanges();
        needsOfNames();
        circles();
        noCircles();
        firstError();
        emptyIsZero();
        goneIsLost();
        nameIsFirstCell();
        divisions();
        comparisons();
        choices();
        lostRanges();
        firstErrorInRange();
        sums();
        countsAndMeans();
        leastAndMost();
        shownOnes();
        findOrder();
        findFirst();
        findMissing();
        held();
        heldPlaces();
        stale();
        check.end();
    }

    private static double value(TabulaWorks x, String words) {
        check.is(Check.tell(x, "F10", words), 0);
        return Check.value(x, "F10");
    }

    private static int error(TabulaWorks x, String words) {
        return Check.tell(x, "F10", words);
    }

    // ---- what stands ahead of section 1

    /** Quotients, products and sums to the last bit, as Java reckons them one after the other. */
    private static void inOrder() {
        check.says("doubles are reckoned just in the order that is told (as Java does;");
        TabulaWorks x = new TabulaWorks();
        double[] told = {0.1, 0.7, 1.0 / 3.0, -2.0 / 3.0, 7.7};
        int[] ones = {4, 28, 4, -8, 308};
        int[] twos = {40, 40, 12, 12, 40};
        for (int k = 0; k < told.length; k++) {
            x.formula(0, k * 6, 3, ones[k] - 500, twos[k] - 500, 0);
            check.is(x.value(0, k * 6), ones[k] / 4.0 / (twos[k] / 4.0));
        }
        for (int k = 0; k < 25; k++) {
            double one = x.value(0, k / 5 * 6);
            double two = x.value(0, k % 5 * 6);
            String operands = "(A" + (k / 5 + 1) + ",A" + (k % 5 + 1) + ")";
            check.is(value(x, "=PLUS" + operands), one + two);
            check.is(value(x, "=LESS" + operands), one - two);
            check.is(value(x, "=TIMES" + operands), one * two);
            check.is(value(x, "=BY" + operands), one / two);
        }
        double sum = 0.0;
        for (int k = 0; k < 5; k++) {
            sum = sum + x.value(0, k * 6);
        }
        check.is(value(x, "=SUM(A1:A5)"), sum);
        check.is(value(x, "=MEAN(A1:A5)"), sum / 5.0);
        check.is(x.group(0, 0, 0, 0, 0), x.value(0, 18));
    }

    private static void noMinusZero() {
        check.says("there is no -0.0: it is 0.0 at once, wherever it comes about");
        String[] zeros = {"=TIMES(A2,A1)", "=TIMES(A1,0q)", "=BY(A2,A1)", "=BY(F1,A1)", "=LESS(A1,A1)"};
        for (String zero : zeros) {
            TabulaWorks x = new TabulaWorks();
            Check.put(x, "A1", -4);
            Check.put(x, "A2", 0);
            check.is(Check.tell(x, "B1", zero), 0);
            check.is(Check.value(x, "B1"), 0.0);
            check.is(Check.text(x, "B1"), "0.00");
            check.is(x.would(0, 6, 0, 0, 1), 0.0);
            check.is(x.group(0, 1, 1, 0, 0), 0.0);
            check.is(x.group(0, 1, 1, 0, 1), 0.0);
            String[] further = {"=CHOICE(1q,B1,1q)", "=LESSER(B1,0q)", "=GREATER(B1,0q)", "=SUM(B1:B2)", "=MEAN(B1:B2)",
                "=LEAST(B1:B2)", "=MOST(B1:B2)", "=SHOWN(B1:B2)", "=FIND(B1:B2,0q)", "=PLUS(B1,B1)"};
            for (String words : further) {
                check.is(value(x, words), 0.0);
            }
            check.is(error(x, "=BY(1q,B1)"), 2);
        }
    }

    /** Doubles as small as can be: what comes about below them is 0.0, from below 0, too. */
    private static void underflow() {
        check.says("there is no -0.0: it is 0.0 at once, wherever it comes about");
        TabulaWorks x = new TabulaWorks();
        Check.put(x, "A1", 1);
        Check.put(x, "A2", 100000);
        Check.tell(x, "B1", "=BY(A1,A2)");
        for (int row = 2; row <= 7; row++) {
            Check.tell(x, "B" + row, "=TIMES(B" + (row - 1) + ",B" + (row - 1) + ")");
        }
        check.is(Check.value(x, "B7") > 0.0, true);
        Check.tell(x, "C1", "=LESS(0q,B7)");
        check.is(Check.value(x, "C1") < 0.0, true);
        check.is(value(x, "=TIMES(B7,B7)"), 0.0);
        check.is(value(x, "=TIMES(C1,B7)"), 0.0);
        check.is(value(x, "=BY(C1,A2)"), 0.0);
        check.is(value(x, "=BY(C1,C1)"), 1.0);
        check.is(error(x, "=BY(A2,B7)"), 5);
        check.is(error(x, "=BY(A2,C1)"), 5);
        check.is(Check.text(x, "C1"), "0.00");
    }

    private static void lastCalls() {
        check.says("An object is used for at most 512 calls after it has been made");
        TabulaWorks x = new TabulaWorks();
        for (int call = 1; call <= 502; call++) {
            x.number(1, call % 60, call);
        }
        check.is(x.formula(0, 0, 9, 60, 119, 0), 0);
        for (int left = 7; left >= 1; left--) {
            check.is(x.undo(), left);
        }
        check.is(x.words(1, 502 % 60), (502 - 60) + "q");
        check.is(x.number(1, 59, 7), 0);
    }

    // ---- 1. Cells and references

    private static void sheets() {
        check.says("SHEETS: two, 0 and 1, each of 6 COLUMNS (0 to 5, called A to F) and 10 ROWS (0 to 9, called 1 to 10).");
        TabulaWorks x = new TabulaWorks();
        x.formula(0, 20, 8, 0, 5, 54);
        x.formula(1, 20, 8, 59, 60, 119);
        check.is(x.words(0, 20) + x.words(1, 20), "=CHOICE(A1,F1,A10)=CHOICE(S0!F10,A1,F10)");
        String letters = "";
        for (int column = 0; column < 6; column++) {
            x.formula(1, 0, 0, 60 + column, -500, 0);
            letters += x.words(1, 0).substring(6, 8) + " ";
        }
        check.is(letters, "A1 B1 C1 D1 E1 F1 ");
        check.fails(x, Check.INDEX, () -> x.value(-1, 0));
        check.fails(x, Check.INDEX, () -> x.value(2, 0));
        check.fails(x, Check.INDEX, () -> x.filter(0, -1, 0));
        check.fails(x, Check.INDEX, () -> x.filter(0, 6, 0));
        check.fails(x, Check.INDEX, () -> x.hide(0, -1, true));
        check.fails(x, Check.INDEX, () -> x.hide(0, 10, true));
        check.is(x.filter(0, 5, 0), 10);
        check.is(x.hide(1, 9, true), false);
    }

    private static void cellNumbers() {
        check.says("CELLS of a SHEET are numbered ROW * 6 + COLUMN.");
        for (int sheet = 0; sheet < 2; sheet++) {
            for (int cell = 0; cell < 60; cell++) {
                TabulaWorks x = new TabulaWorks();
                x.number(sheet, cell, 1);
                check.is(x.ofSheet(sheet, 6), cell / 6);
                check.is(x.ofSheet(sheet, 7), cell % 6);
                check.is(x.ofSheet(sheet, 0) + 10 * x.ofSheet(1 - sheet, 0), 1);
                check.is(x.ofCell(sheet, cell, 0), 1);
            }
        }
        TabulaWorks x = new TabulaWorks();
        check.fails(x, Check.INDEX, () -> x.value(0, -1));
        check.fails(x, Check.INDEX, () -> x.value(0, 60));
        check.fails(x, Check.INDEX, () -> x.value(1, 60));
    }

    private static void emptyAtFirst() {
        check.says("A CELL is EMPTY (at first), or holds a NUMBER (double; told in quarters), or a FORMULA.");
        TabulaWorks x = new TabulaWorks();
        for (int place = 0; place < 120; place++) {
            check.is(x.ofCell(place / 60, place % 60, 0), 0);
        }
        // A NUMBER of 0 quarters is held: it is not EMPTY.
        x.number(0, 0, 0);
        check.is(x.ofCell(0, 0, 0), 1);
        check.is(x.ofSheet(0, 0), 1);
        x.formula(0, 0, 0, -500, -500, 0);
        check.is(x.ofCell(0, 0, 0), 2);
    }

    private static void gone() {
        check.says("It can be GONE (then it names none).");
        TabulaWorks x = new TabulaWorks();
        Check.put(x, "A1", 4);
        check.is(Check.tellGone(x, "A5", "=CHOICE(1q,A1,C1)"), 1);
        check.is(Check.words(x, "A5"), "=CHOICE(1q,?,B1)");
        check.is(Check.ask(x, "A5", 6), 1);
        check.is(Check.ask(x, "A1", 8), 0);
        check.is(Check.error(x, "A5"), 3);
        // Once it is GONE it stays so, wherever cells and lines go.
        x.copy(0, Check.at("A5"), 0, Check.at("D5"));
        check.is(Check.words(x, "D5"), "=CHOICE(1q,?,E1)");
        x.move(0, 0, 0, 7);
        x.put(0, false, 0);
        x.take(0, false, 0);
        x.sort(0, 0, 9, 5, true);
        check.is(Check.words(x, "D5"), "=CHOICE(1q,?,E1)");
        check.is(x.many(1), 2);
    }

    private static void namesAtFirst() {
        check.says("NAMES: 0, 1 and 2; each names a RANGE by two CELLS of one SHEET (its CORNERS), or nothing (at first).");
        TabulaWorks x = new TabulaWorks();
        for (int name = 0; name < 3; name++) {
            check.is(Check.named(x, name), "-1 -1 -1");
            check.is(x.ofName(name, 3), 0);
            check.is(Check.tell(x, "A1", "=SUM(N" + name + ")"), 3);
        }
        for (int name = 0; name < 3; name++) {
            check.is(x.name(name, name % 2, 59 - name, name), name == 2 ? 1 : 0);
        }
        check.is(Check.named(x, 0) + ", " + Check.named(x, 1) + ", " + Check.named(x, 2), "0 59 0, 1 58 1, 0 57 2");
        check.fails(x, Check.INDEX, () -> x.ofName(3, 0));
        check.fails(x, Check.INDEX, () -> x.ofName(-1, 0));
    }

    private static int rangeOf(TabulaWorks x, String one, String two) {
        x.name(0, 0, Check.at(one), Check.at(two));
        x.name(1, 1, Check.at(one), Check.at(two));
        check.is(x.ofName(0, 3), x.ofName(1, 3));
        check.is(Check.tell(x, 1, "A1", "=COUNT(" + one + ":" + two + ")"), 0);
        check.is(x.value(1, 0), (double) x.ofName(0, 3));
        check.is(x.ofCell(1, 0, 6), x.ofName(0, 3));
        check.is(Check.tell(x, 1, "A1", "=COUNT(N0)"), 0);
        check.is(x.value(1, 0), (double) x.ofName(0, 3));
        return x.ofName(0, 3);
    }

    private static void ranges() {
        check.says("A RANGE: all CELLS of that SHEET whose COLUMN and whose ROW lie between those of both CORNERS "
            + "(these, too; whichever is the greater one), in the order of their numbers.");
        TabulaWorks x = new TabulaWorks();
        x.number(0, 0, 1);
        x.fill(0, 0, 59);
        check.is(rangeOf(x, "A1", "A1"), 1);
        check.is(rangeOf(x, "F10", "F10"), 1);
        check.is(rangeOf(x, "A1", "F10"), 60);
        check.is(rangeOf(x, "F10", "A1"), 60);
        check.is(rangeOf(x, "A10", "F1"), 60);
        check.is(rangeOf(x, "F1", "A10"), 60);
        check.is(rangeOf(x, "A1", "F1"), 6);
        check.is(rangeOf(x, "F1", "A1"), 6);
        check.is(rangeOf(x, "F10", "F1"), 10);
        check.is(rangeOf(x, "C5", "D4"), 4);
        check.is(rangeOf(x, "B9", "C10"), 4);
    }

    private static void rangesInOrder() {
        check.says("in the order of their numbers");
        TabulaWorks x = new TabulaWorks();
        // B1 comes ahead of A2, though A is the column farther left.
        Check.tell(x, "B1", "=BY(1q,0q)");
        Check.tell(x, "A2", "=PLUS(N2,1q)");
        check.is(error(x, "=SUM(A1:B2)"), 2);
        check.is(error(x, "=SUM(B2:A1)"), 2);
        check.is(error(x, "=SUM(A2:B1)"), 2);
        check.is(error(x, "=SUM(A2:B2)"), 3);
        x.name(0, 0, Check.at("A2"), Check.at("B1"));
        check.is(error(x, "=MOST(N0)"), 2);
    }

    private static void noTwoWithName() {
        check.says("The RANGE is that of the NAME, if ONE is a NAME (it has no TWO then)");
        int[] twos = {Integer.MIN_VALUE, -1001, -500, 0, 59, 481, 482, 483, Integer.MAX_VALUE};
        for (int two : twos) {
            TabulaWorks x = new TabulaWorks();
            x.name(0, 0, 1, 1);
            check.is(x.formula(1, 30, 9, 480, two, two), 0);
            check.is(x.words(1, 30), "=SUM(N0)");
            check.is(x.ofCell(1, 30, 6), 1);
            check.is(x.ofName(1, 4) + x.ofName(2, 4), 0);
            check.is(x.formula(1, 30, 15, 480, two, 0), 4);
            check.is(x.words(1, 30), "=FIND(N0,S0!A1)");
            check.is(x.ofCell(1, 30, 6), 2);
            // What it has not can not be GONE.
            check.is(x.take(0, true, 9), 0);
            check.is(x.take(0, false, 0), 1);
            check.is(x.words(1, 30), "=FIND(N0,?)");
        }
    }

    private static void asManyAsNeeded() {
        check.says("A FORMULA has a FUNCTION and its OPERANDS, ONE, TWO and THREE, as many as that needs.");
        int[] threes = {Integer.MIN_VALUE, -1001, 0, 482, 483, Integer.MAX_VALUE};
        for (int three : threes) {
            for (int function = 0; function < 15; function++) {
                TabulaWorks x = new TabulaWorks();
                if (function != 8) {
                    x.formula(0, 33, function, 1, 2, three);
                    check.is(x.ofCell(0, 33, 2), function);
                    check.is(x.ofCell(0, 33, 6), 2);
                    check.is(x.ofName(2, 4), 0);
                    check.is(x.take(0, false, 0), 0);
                    check.is(x.words(0, 32).endsWith(function < 9 ? "(A1,B1)" : "(A1:B1)"), true);
                }
            }
        }
        TabulaWorks x = new TabulaWorks();
        x.formula(0, 30, 8, 1, 2, 3);
        x.formula(0, 31, 15, 1, 2, 3);
        check.is(x.ofCell(0, 30, 6) + x.ofCell(0, 31, 6), 6);
        check.is(x.words(0, 30) + x.words(0, 31), "=CHOICE(B1,C1,D1)=FIND(B1:C1,D1)");
    }

    private static void codesOfNumbers() {
        check.says("-1000 to -1 the NUMBER (code + 500) / 4.0");
        TabulaWorks x = new TabulaWorks();
        int[] codes = {-1000, -999, -501, -500, -499, -2, -1};
        double[] due = {-125.0, -124.75, -0.25, 0.0, 0.25, 124.5, 124.75};
        for (int k = 0; k < codes.length; k++) {
            check.is(x.formula(0, 1, 8, -499, codes[k], 0), 0);
            check.is(x.value(0, 1), due[k]);
            check.is(x.words(0, 1), "=CHOICE(1q," + (codes[k] + 500) + "q,A1)");
            check.is(x.formula(0, 1, 0, codes[k], -500, 0), 0);
            check.is(x.value(0, 1), due[k]);
        }
        check.fails(x, Check.ARGUMENT, () -> x.formula(0, 0, 0, -1001, -500, 0));
        check.fails(x, Check.ARGUMENT, () -> x.formula(0, 0, 0, -500, -1001, 0));
        check.fails(x, Check.ARGUMENT, () -> x.formula(0, 0, 8, -500, -500, -1001));
    }

    private static void codesOfReferences() {
        check.says("0 to 479 a REFERENCE: code modulo 60 is the CELL, code / 60 modulo 2 the SHEET, the COLUMN is FIXED, "
            + "if code / 120 modulo 2 is 1, the ROW, if code / 240 is 1");
        TabulaWorks x = new TabulaWorks();
        int[] codes = {0, 59, 60, 119, 120, 179, 180, 239, 240, 299, 300, 359, 360, 419, 420, 479};
        String[] due = {"A1", "F10", "S1!A1", "S1!F10", "$A1", "$F10", "S1!$A1", "S1!$F10", "A$1", "F$10", "S1!A$1",
            "S1!F$10", "$A$1", "$F$10", "S1!$A$1", "S1!$F$10"};
        for (int k = 0; k < codes.length; k++) {
            x.formula(0, 30, 0, codes[k], -500, 0);
            check.is(x.words(0, 30), "=PLUS(" + due[k] + ",0q)");
            check.is(x.ofCell(codes[k] / 60 % 2, codes[k] % 60, 8), 1);
            check.is(x.ofCell(0, 30, 6), 1);
        }
    }

    private static void codesOfNames() {
        check.says("480 to 482 the NAME 0 to 2");
        TabulaWorks x = new TabulaWorks();
        for (int name = 0; name < 3; name++) {
            x.name(name, 1, name, name);
            x.number(1, name, 4 * name + 4);
            check.is(x.formula(0, 0, 0, 480 + name, -500, 0), 0);
            check.is(x.value(0, 0), name + 1.0);
            check.is(x.words(0, 0), "=PLUS(N" + name + ",0q)");
        }
        check.fails(x, Check.ARGUMENT, () -> x.formula(0, 0, 0, 483, -500, 0));
        check.fails(x, Check.ARGUMENT, () -> x.formula(0, 0, 0, -500, 483, 0));
        check.fails(x, Check.ARGUMENT, () -> x.formula(0, 0, 9, 483, 0, 0));
        check.fails(x, Check.ARGUMENT, () -> x.formula(0, 0, 15, 480, 0, 483));
    }

    // ---- 2. Values

    private static void nothing() {
        check.says("Each CELL has a VALUE: nothing (of an EMPTY one), a double, or an ERROR");
        TabulaWorks x = new TabulaWorks();
        check.is(x.text(0, 0), "");
        check.is(x.value(0, 0), 0.0);
        check.is(x.ofCell(0, 0, 1), 0);
        check.is(value(x, "=COUNT(A1:A1)"), 0.0);
        x.number(0, 0, 0);
        check.is(x.text(0, 0), "0.00");
        check.is(value(x, "=COUNT(A1:A1)"), 1.0);
        Check.tell(x, "A1", "=BY(1q,0q)");
        check.is(x.text(0, 0) + x.ofCell(0, 0, 1), "!22");
        check.is(x.value(0, 0), 0.0);
        x.clear(0, 0);
        check.is(x.text(0, 0), "");
    }

    private static void ownValue() {
        check.says("A NUMBER is its own VALUE.");
        TabulaWorks x = new TabulaWorks();
        int[] quarters = {-100000, -99999, -1, 0, 1, 3, 99999, 100000};
        for (int told : quarters) {
            x.number(1, 59, told);
            check.is(x.value(1, 59), told / 4.0);
            check.is(x.words(1, 59), told + "q");
        }
    }

    /** A1 is 1000000000.0 just, A2 as much below 0, A3 the smallest step from one to the next double there. */
    private static TabulaWorks greatest() {
        TabulaWorks x = new TabulaWorks();
        Check.put(x, "B1", 100000);
        Check.put(x, "B2", 4000);
        Check.tell(x, "B3", "=TIMES(B1,160q)");
        Check.tell(x, "A1", "=TIMES(B2,B3)");
        check.is(Check.value(x, "A1"), 1000000000.0);
        Check.tell(x, "A2", "=LESS(0q,A1)");
        // The doubles around 1000000000.0 are 2 ^ -23 apart.
        Check.tell(x, "B4", "=BY(4q,256q)");
        Check.tell(x, "B5", "=TIMES(B4,B4)");
        Check.tell(x, "B6", "=TIMES(B5,B4)");
        Check.tell(x, "A3", "=BY(B6,128q)");
        check.is(Check.value(x, "A3"), 1.0 / (1 << 23));
        return x;
    }

    private static void great() {
        check.says("What a FUNCTION makes is GREAT, if it is a double above 1000000000.0 or below -1000000000.0.");
        TabulaWorks x = greatest();
        check.is(Check.value(x, "A2"), -1000000000.0);
        String[] just = {"=PLUS(A1,0q)", "=PLUS(A2,0q)", "=LESS(A1,0q)", "=LESS(A2,0q)", "=TIMES(A1,4q)", "=TIMES(A1,-4q)",
            "=BY(A1,4q)", "=BY(A1,-4q)", "=LESSER(A1,A1)", "=GREATER(A2,A2)", "=CHOICE(1q,A1,0q)", "=CHOICE(0q,0q,A2)",
            "=SUM(A1:A1)", "=MEAN(A1:A1)", "=LEAST(A2:A2)", "=MOST(A1:A1)", "=SHOWN(A2:A2)", "=FIND(A1:A2,A2)",
            "=LESS(A1,A3)", "=PLUS(A2,A3)"};
        for (String words : just) {
            check.is(error(x, words), 0);
        }
        String[] above = {"=PLUS(A1,A3)", "=PLUS(A3,A1)", "=LESS(A2,A3)", "=TIMES(A1,5q)", "=TIMES(A2,5q)", "=TIMES(A1,A2)",
            "=BY(A1,3q)", "=BY(A1,-3q)", "=BY(A2,A3)"};
        for (String words : above) {
            check.is(error(x, words), 5);
        }
        Check.tell(x, "C1", "=PLUS(A1,0q)");
        Check.tell(x, "C2", "=PLUS(A3,0q)");
        check.is(error(x, "=SUM(C1:C2)"), 5);
        check.is(error(x, "=SHOWN(C1:C2)"), 5);
        check.is(error(x, "=MEAN(C1:C2)"), 0);
        Check.tell(x, "C1", "=PLUS(A2,0q)");
        Check.tell(x, "C2", "=LESS(0q,A3)");
        check.is(error(x, "=SUM(C1:C2)"), 5);
        check.is(error(x, "=SHOWN(C1:C2)"), 5);
    }

    private static void needsOfReferences() {
        check.says("A FORMULA NEEDS all CELLS that its OPERANDS name: REFERENCES that are not GONE (all three of a CHOICE)");
        TabulaWorks x = new TabulaWorks();
        Check.tell(x, "C1", "=CHOICE(B1,B2,S1!B3)");
        check.is(Check.ask(x, "C1", 6), 3);
        check.is(Check.ask(x, "B1", 8) + Check.ask(x, "B2", 8) + x.ofCell(1, Check.at("B3"), 8), 3);
        check.is(Check.ask(x, "B3", 8) + x.ofCell(1, Check.at("B1"), 8), 0);
        Check.tell(x, "C1", "=CHOICE(B1,$B$1,1q)");
        check.is(Check.ask(x, "C1", 6), 1);
        Check.tell(x, "C1", "=PLUS(1q,2q)");
        check.is(Check.ask(x, "C1", 6) + Check.ask(x, "C1", 7), 0);
        Check.tellGone(x, "C2", "=CHOICE(A1,D5,A2)");
        check.is(Check.words(x, "C2"), "=CHOICE(?,C5,?)");
        check.is(Check.ask(x, "C2", 6), 1);
    }

    private static void needsOfRanges() {
        check.says("or all CELLS of its RANGE (none, if a CORNER of it is GONE, or the NAME names nothing), and THREE");
        TabulaWorks x = new TabulaWorks();
        Check.tell(x, "C5", "=FIND(A1:B2,E1)");
        check.is(Check.ask(x, "C5", 6), 5);
        Check.tell(x, "C5", "=FIND(A1:B2,B2)");
        check.is(Check.ask(x, "C5", 6), 4);
        check.is(Check.tellGone(x, "A5", "=FIND(A1:B2,E1)"), 1);
        check.is(Check.ask(x, "A5", 6), 1);
        check.is(Check.tellGone(x, "A6", "=SUM(B2:A1)"), 1);
        check.is(Check.ask(x, "A6", 6), 0);
        Check.tell(x, "A7", "=SUM(N1)");
        check.is(Check.ask(x, "A7", 6), 0);
        Check.tell(x, "A7", "=FIND(N1,S1!E1)");
        check.is(Check.ask(x, "A7", 6), 1);
        x.name(1, 1, 0, 59);
        check.is(Check.ask(x, "A7", 6), 60);
        Check.tell(x, "A8", "=SHOWN(A1:F1)");
        x.hide(0, 0, true);
        check.is(Check.ask(x, "A8", 6), 6);
    }

    private static void needsOfNames() {
        check.says("of a NAME as an OPERAND of functions of two or three, or as THREE, the first CELL of its RANGE alone.");
        TabulaWorks x = new TabulaWorks();
        // The first cell, B3, is none of the corners.
        x.name(0, 0, Check.at("D3"), Check.at("B6"));
        String[] all = {"=PLUS(N0,1q)", "=PLUS(1q,N0)", "=CHOICE(N0,1q,1q)", "=CHOICE(1q,N0,1q)", "=CHOICE(1q,1q,N0)",
            "=FIND(N1,N0)"};
        for (String words : all) {
            Check.tell(x, "A1", words);
            check.is(Check.ask(x, "A1", 6), 1);
            check.is(Check.ask(x, "B3", 8), 1);
            check.is(Check.ask(x, "D3", 8) + Check.ask(x, "B6", 8), 0);
        }
        Check.tell(x, "A1", "=PLUS(N1,N2)");
        check.is(Check.ask(x, "A1", 6), 0);
        Check.tell(x, "A1", "=FIND(N0,N0)");
        check.is(Check.ask(x, "A1", 6), 12);
    }

    private static void circles() {
        check.says("If, going from a FORMULA to those that it NEEDS, and so on, one comes back to it, its VALUE is CIRCLE.");
        String[] own = {"=PLUS(F10,1q)", "=PLUS(1q,F10)", "=BY(F10,0q)", "=CHOICE(F10,1q,1q)", "=CHOICE(1q,1q,F10)",
            "=CHOICE(0q,F10,1q)", "=SUM(A1:F10)", "=COUNT(F10:F10)", "=SHOWN(F10:F10)", "=FIND(F10:E9,1q)",
            "=FIND(A1:A1,F10)", "=PLUS(N0,1q)", "=FIND(A1:A1,N0)", "=MEAN(N1)", "=PLUS(N2,F10)", "=FIND(N2,F10)"};
        for (String words : own) {
            TabulaWorks x = new TabulaWorks();
            x.name(0, 0, 59, 59);
            x.name(1, 0, 59, 0);
            x.hide(0, 9, true);
            check.is(error(x, words), 1);
            check.is(x.many(6), 1);
        }
        // All 120 cells in one circle, and no more once it is broken.
        TabulaWorks x = new TabulaWorks();
        for (int place = 0; place < 120; place++) {
            x.formula(place / 60, place % 60, 0, (place + 1) % 120, -499, 0);
        }
        check.is(x.many(6), 120);
        check.is(x.ofSheet(0, 2) + x.ofSheet(1, 2), 120);
        check.is(x.number(0, 30, 0), 119);
        check.is(x.ofSheet(0, 2) + x.ofSheet(1, 2), 0);
        check.is(x.many(6), 0);
    }

    /** What leads into a circle has its error, but one does not come back to it. */
    private static void noCircles() {
        check.says("one comes back to it");
        TabulaWorks x = new TabulaWorks();
        Check.tell(x, "A1", "=PLUS(A2,1q)");
        Check.tell(x, "A2", "=PLUS(A1,1q)");
        check.is(Check.tell(x, "B1", "=PLUS(A1,1q)"), 1);
        check.is(Check.tell(x, "B2", "=CHOICE(1q,8q,A1)"), 0);
        check.is(Check.tell(x, "B3", "=FIND(C1:C2,A1)"), 1);
        check.is(Check.tell(x, "B4", "=SHOWN(A1:A2)"), 1);
        x.hide(0, 0, true);
        x.hide(0, 1, true);
        check.is(Check.error(x, "B4"), 0);
        check.is(x.many(6), 2);
        check.is(Check.ask(x, "B1", 7), 2);
        // A formula that needs one cell twice, by two ways, is in no circle.
        Check.tell(x, "D1", "=PLUS(E1,E2)");
        Check.tell(x, "E1", "=PLUS(F1,1q)");
        Check.tell(x, "E2", "=PLUS(F1,2q)");
        Check.tell(x, "F1", "=PLUS(1q,1q)");
        check.is(Check.value(x, "D1"), 1.75);
        check.is(x.many(6), 2);
    }

    /** A1 to A5 have the errors 1 to 5. */
    private static TabulaWorks errors() {
        TabulaWorks x = new TabulaWorks();
        Check.tell(x, "A1", "=PLUS(A1,1q)");
        Check.tell(x, "A2", "=BY(1q,0q)");
        Check.tell(x, "A3", "=PLUS(N2,1q)");
        Check.tell(x, "A4", "=FIND(E1:E1,1q)");
        Check.put(x, "E2", 100000);
        Check.tell(x, "E3", "=TIMES(E2,E2)");
        Check.tell(x, "A5", "=TIMES(E3,E3)");
        for (int error = 1; error <= 5; error++) {
            check.is(Check.error(x, "A" + error), error);
        }
        return x;
    }

    private static void firstError() {
        check.says("ONE and TWO are looked at in that order; the first ERROR among them is the VALUE");
        TabulaWorks x = errors();
        String[] words = {"PLUS", "LESS", "TIMES", "BY", "LESSER", "GREATER", "BELOW", "SAME"};
        for (String word : words) {
            for (int one = 1; one <= 5; one++) {
                int two = one % 5 + 1;
                check.is(error(x, "=" + word + "(A" + one + ",A" + two + ")"), one);
                check.is(error(x, "=" + word + "(B1,A" + two + ")"), two);
                check.is(error(x, "=" + word + "(A" + one + ",0q)"), one);
            }
        }
    }

    private static void emptyIsZero() {
        check.says("(Here, in a CHOICE and as THREE, what is EMPTY counts as 0.0;");
        TabulaWorks x = new TabulaWorks();
        check.is(value(x, "=PLUS(A1,A2)"), 0.0);
        check.is(value(x, "=LESS(A1,4q)"), -1.0);
        check.is(value(x, "=TIMES(4q,A1)"), 0.0);
        check.is(error(x, "=BY(4q,A1)"), 2);
        check.is(value(x, "=LESSER(A1,4q)"), 0.0);
        check.is(value(x, "=GREATER(A1,-4q)"), 0.0);
        check.is(value(x, "=BELOW(A1,1q)"), 1.0);
        check.is(value(x, "=SAME(A1,A2)"), 1.0);
        check.is(value(x, "=CHOICE(A1,4q,8q)"), 2.0);
        check.is(value(x, "=CHOICE(1q,A1,8q)"), 0.0);
        check.is(value(x, "=CHOICE(0q,8q,A1)"), 0.0);
        check.is(Check.text(x, "F10"), "0.00");
        Check.put(x, "B2", 0);
        Check.put(x, "C2", 20);
        check.is(value(x, "=FIND(B1:C2,A1)"), 5.0);
    }

    private static void goneIsLost() {
        check.says("a REFERENCE that is GONE is LOST; a NAME is the first CELL of its RANGE, LOST if it names nothing.");
        String[] all = {"=PLUS(A1,1q)", "=PLUS(1q,A1)", "=BY(A1,0q)", "=BY(0q,A1)", "=SAME(A1,A1)", "=CHOICE(A1,1q,1q)",
            "=CHOICE(1q,A1,1q)", "=CHOICE(0q,1q,A1)", "=FIND(C1:C2,A1)"};
        for (String words : all) {
            TabulaWorks x = new TabulaWorks();
            Check.tellGone(x, "A9", words);
            check.is(Check.error(x, "A9"), 3);
            check.is(Check.tell(x, "A9", words.replace("A1", "N0")), 3);
        }
        TabulaWorks x = new TabulaWorks();
        Check.tellGone(x, "A9", "=CHOICE(1q,8q,A1)");
        check.is(Check.value(x, "A9"), 2.0);
        check.is(Check.tell(x, "A9", "=CHOICE(0q,N0,8q)"), 0);
    }

    private static void nameIsFirstCell() {
        check.says("a NAME is the first CELL of its RANGE");
        TabulaWorks x = new TabulaWorks();
        Check.put(x, "B3", 4);
        Check.put(x, "D3", 8);
        Check.put(x, "B6", 12);
        Check.put(x, "D6", 16);
        String[][] corners = {{"B3", "D6"}, {"D6", "B3"}, {"D3", "B6"}, {"B6", "D3"}};
        for (String[] corner : corners) {
            x.name(0, 0, Check.at(corner[0]), Check.at(corner[1]));
            check.is(value(x, "=PLUS(N0,N0)"), 2.0);
            check.is(value(x, "=CHOICE(1q,N0,0q)"), 1.0);
            check.is(value(x, "=FIND(B3:D3,N0)"), 2.0);
        }
        x.name(0, 0, Check.at("E9"), Check.at("D6"));
        check.is(value(x, "=PLUS(N0,0q)"), 4.0);
        x.clear(0, Check.at("D6"));
        check.is(value(x, "=PLUS(N0,0q)"), 0.0);
    }

    private static void divisions() {
        check.says("BY: ONE / TWO, but DIVISION, if TWO is 0.0");
        TabulaWorks x = new TabulaWorks();
        Check.put(x, "A1", 0);
        check.is(error(x, "=BY(4q,0q)"), 2);
        check.is(error(x, "=BY(0q,0q)"), 2);
        check.is(error(x, "=BY(-4q,A1)"), 2);
        check.is(error(x, "=BY(A2,A3)"), 2);
        check.is(value(x, "=BY(0q,1q)"), 0.0);
        check.is(value(x, "=BY(4q,1q)"), 4.0);
        check.is(value(x, "=BY(4q,-1q)"), -4.0);
        check.is(value(x, "=BY(4q,12q)"), 1.0 / 3.0);
    }

    private static void comparisons() {
        check.says("LESSER, GREATER: the smaller, the greater one; BELOW: 1.0, if ONE is smaller than TWO, otherwise 0.0; "
            + "SAME: 1.0, if they are equal, otherwise 0.0.");
        TabulaWorks x = new TabulaWorks();
        int[] pairs = {-8, -4, -4, -8, -4, 4, 0, 1, -1, 0, 4, 4, 0, 0, -4, -4};
        for (int k = 0; k < pairs.length; k += 2) {
            int one = pairs[k];
            int two = pairs[k + 1];
            String operands = "(" + one + "q," + two + "q)";
            check.is(value(x, "=LESSER" + operands), (one < two ? one : two) / 4.0);
            check.is(value(x, "=GREATER" + operands), (one > two ? one : two) / 4.0);
            check.is(value(x, "=BELOW" + operands), one < two ? 1.0 : 0.0);
            check.is(value(x, "=SAME" + operands), one == two ? 1.0 : 0.0);
        }
        // As near as doubles can be, but not equal.
        Check.tell(x, "A1", "=BY(4q,12q)");
        Check.tell(x, "A2", "=LESS(4q,A3)");
        Check.tell(x, "A3", "=BY(8q,12q)");
        check.is(value(x, "=SAME(A1,A2)"), 1.0 / 3.0 == 1.0 - 2.0 / 3.0 ? 1.0 : 0.0);
        check.is(value(x, "=BELOW(A1,A2)"), 1.0 / 3.0 < 1.0 - 2.0 / 3.0 ? 1.0 : 0.0);
        check.is(value(x, "=BELOW(A2,A1)"), 1.0 - 2.0 / 3.0 < 1.0 / 3.0 ? 1.0 : 0.0);
    }

    private static void choices() {
        check.says("CHOICE: the ERROR of ONE; otherwise what TWO is, if ONE is not 0.0, else what THREE is "
            + "(an ERROR of the other one does not matter).");
        TabulaWorks x = errors();
        for (int error = 1; error <= 5; error++) {
            check.is(error(x, "=CHOICE(A" + error + ",4q,8q)"), error);
            check.is(error(x, "=CHOICE(A" + error + ",A" + (error % 5 + 1) + ",A2)"), error);
            check.is(error(x, "=CHOICE(1q,A" + error + ",8q)"), error);
            check.is(error(x, "=CHOICE(0q,8q,A" + error + ")"), error);
            check.is(value(x, "=CHOICE(0q,A" + error + ",8q)"), 2.0);
            check.is(value(x, "=CHOICE(1q,8q,A" + error + ")"), 2.0);
            check.is(value(x, "=CHOICE(-1q,8q,A" + error + ")"), 2.0);
        }
        Check.tell(x, "B1", "=BY(1q,499q)");
        check.is(value(x, "=CHOICE(B1,4q,8q)"), 1.0);
    }

    private static void lostRanges() {
        check.says("With those of a RANGE: LOST, if a CORNER is GONE or the NAME names nothing; otherwise the first ERROR");
        String[] words = {"SUM", "COUNT", "MEAN", "LEAST", "MOST", "SHOWN"};
        for (String word : words) {
            TabulaWorks x = new TabulaWorks();
            // The corner that is left has an error: LOST goes ahead of it.
            Check.tell(x, "A1", "=BY(1q,0q)");
            Check.tellGone(x, "A9", "=" + word + "(A1:B1)");
            check.is(Check.words(x, "A9"), "=" + word + "(?:A1)");
            check.is(Check.error(x, "A9"), 3);
            Check.tellGone(x, "A9", "=" + word + "(B1:A1)");
            check.is(Check.error(x, "A9"), 3);
            Check.tellGone(x, "A9", "=" + word + "(A2:A1)");
            check.is(Check.error(x, "A9"), 3);
            check.is(Check.tell(x, "A9", "=" + word + "(N0)"), 3);
            x.name(0, 0, 0, 0);
            check.is(Check.error(x, "A9"), 2);
        }
    }

    private static void firstErrorInRange() {
        check.says("otherwise the first ERROR in the RANGE (SHOWN: in ROWS that are not HIDDEN)");
        String[] words = {"SUM", "COUNT", "MEAN", "LEAST", "MOST", "SHOWN"};
        TabulaWorks x = errors();
        for (String word : words) {
            for (int error = 1; error <= 5; error++) {
                check.is(error(x, "=" + word + "(A" + error + ":B6)"), error);
            }
            check.is(error(x, "=" + word + "(A6:B6)"), word.equals("MEAN") ? 2 : 0);
        }
        for (String word : words) {
            error(x, "=" + word + "(A1:A6)");
            for (int row = 0; row < 5; row++) {
                check.is(Check.error(x, "F10"), word.equals("SHOWN") ? row + 1 : 1);
                x.hide(0, row, true);
            }
            check.is(Check.error(x, "F10"), word.equals("SHOWN") ? 0 : 1);
            for (int row = 0; row < 5; row++) {
                x.hide(0, row, false);
            }
        }
        // Great sums do not hide an error that comes behind them.
        TabulaWorks y = greatest();
        Check.tell(y, "C1", "=PLUS(A1,0q)");
        Check.tell(y, "C2", "=PLUS(A1,0q)");
        Check.tell(y, "C3", "=PLUS(N0,0q)");
        check.is(error(y, "=SUM(C1:C3)"), 3);
    }

    private static void sums() {
        check.says("SUM: from 0.0 on all doubles are added");
        TabulaWorks x = new TabulaWorks();
        check.is(value(x, "=SUM(A1:B9)"), 0.0);
        Check.put(x, "B1", 5);
        check.is(value(x, "=SUM(A1:B9)"), 1.25);
        // Other orders of these answer something else.
        Check.tell(x, "B1", "=BY(4q,40q)");
        Check.tell(x, "A2", "=BY(8q,40q)");
        Check.tell(x, "B2", "=BY(12q,40q)");
        check.is(0.1 + 0.2 + 0.3 == 0.3 + 0.2 + 0.1, false);
        check.is(value(x, "=SUM(A1:B2)"), 0.1 + 0.2 + 0.3);
        check.is(value(x, "=SUM(B2:A1)"), 0.1 + 0.2 + 0.3);
        check.is(value(x, "=SHOWN(B2:A1)"), 0.1 + 0.2 + 0.3);
        check.is(value(x, "=MEAN(B1:A2)"), (0.1 + 0.2 + 0.3) / 3.0);
        // All sixty cells of a sheet.
        x.number(1, 0, 1);
        x.fill(1, 0, 59);
        check.is(value(x, "=SUM(S1!A1:S1!F10)"), 15.0);
    }

    private static void countsAndMeans() {
        check.says("COUNT: how many doubles there are; MEAN: that sum (GREAT or not) / COUNT, DIVISION with none");
        TabulaWorks x = greatest();
        check.is(value(x, "=COUNT(E1:F9)"), 0.0);
        check.is(error(x, "=MEAN(E1:F9)"), 2);
        check.is(error(x, "=MEAN(E5:E5)"), 2);
        Check.put(x, "E5", 0);
        check.is(value(x, "=COUNT(E1:F9)"), 1.0);
        check.is(value(x, "=MEAN(E1:F9)"), 0.0);
        Check.tell(x, "C1", "=PLUS(A1,0q)");
        Check.tell(x, "C2", "=PLUS(A1,0q)");
        check.is(error(x, "=SUM(C1:C3)"), 5);
        check.is(value(x, "=MEAN(C1:C3)"), 1000000000.0);
        check.is(value(x, "=COUNT(C1:C3)"), 2.0);
    }

    private static void leastAndMost() {
        check.says("LEAST and MOST: the smallest and the greatest double, 0.0 with none");
        TabulaWorks x = new TabulaWorks();
        check.is(value(x, "=LEAST(A1:C3)"), 0.0);
        check.is(value(x, "=MOST(A1:C3)"), 0.0);
        // 0.0 is not among them, as soon as there is one.
        Check.put(x, "B2", 8);
        check.is(value(x, "=LEAST(A1:C3)") + value(x, "=MOST(A1:C3)"), 4.0);
        Check.put(x, "B2", -8);
        check.is(value(x, "=LEAST(A1:C3)") + value(x, "=MOST(A1:C3)"), -4.0);
        Check.put(x, "A1", -12);
        Check.put(x, "C3", -4);
        check.is(value(x, "=LEAST(A1:C3)"), -3.0);
        check.is(value(x, "=MOST(A1:C3)"), -1.0);
        Check.put(x, "A1", 12);
        Check.put(x, "C3", 16);
        Check.put(x, "B2", 20);
        check.is(value(x, "=LEAST(A1:C3)"), 3.0);
        check.is(value(x, "=MOST(A1:C3)"), 5.0);
    }

    private static void shownOnes() {
        check.says("SHOWN: SUM of those in ROWS that are not HIDDEN");
        TabulaWorks x = new TabulaWorks();
        Check.put(x, "A1", 4);
        Check.put(x, "A2", 8);
        Check.put(x, "B10", 16);
        x.number(1, 0, 400);
        error(x, "=SHOWN(A1:B10)");
        check.is(Check.value(x, "F10"), 7.0);
        x.hide(0, 9, true);
        check.is(Check.value(x, "F10"), 3.0);
        x.hide(0, 0, true);
        check.is(Check.value(x, "F10"), 2.0);
        x.hide(0, 1, true);
        check.is(Check.value(x, "F10"), 0.0);
        check.is(Check.error(x, "F10"), 0);
        // It is the range's sheet whose rows count, not the formula's.
        check.is(value(x, "=SHOWN(S1!A1:S1!A2)"), 100.0);
        x.hide(1, 0, true);
        check.is(Check.value(x, "F10"), 0.0);
        check.is(value(x, "=SUM(S1!A1:S1!A2)"), 100.0);
        check.is(value(x, "=COUNT(S1!A1:S1!A2)"), 1.0);
    }

    private static void findOrder() {
        check.says("FIND: the ERROR of THREE; then LOST as above; then (whatever ERRORS are in the RANGE)");
        TabulaWorks x = errors();
        for (int error = 1; error <= 5; error++) {
            check.is(error(x, "=FIND(N0,A" + error + ")"), error);
            check.is(error(x, "=FIND(B1:C2,A" + error + ")"), error);
            Check.tellGone(x, "A9", "=FIND(A1:B2,B" + error + ")");
            check.is(Check.error(x, "A9"), error);
        }
        check.is(error(x, "=FIND(N0,1q)"), 3);
        Check.tellGone(x, "A9", "=FIND(A1:B2,1q)");
        check.is(Check.error(x, "A9"), 3);
        Check.tellGone(x, "A9", "=FIND(B2:A1,1q)");
        check.is(Check.error(x, "A9"), 3);
        Check.put(x, "A6", 4);
        Check.put(x, "C6", 44);
        check.is(value(x, "=FIND(A1:C6,4q)"), 11.0);
        check.is(error(x, "=FIND(A1:C6,8q)"), 4);
    }

    private static void findFirst() {
        check.says("in the COLUMN of the RANGE with the smallest number, from above, the first CELL whose VALUE is a double "
            + "and equal to THREE: what the CELL in its ROW and in the COLUMN of the RANGE with the greatest number is "
            + "(0.0, if that is EMPTY)");
        TabulaWorks x = new TabulaWorks();
        Check.put(x, "B1", 4);
        Check.put(x, "B3", 4);
        Check.put(x, "B10", 8);
        Check.put(x, "C1", 12);
        Check.put(x, "D1", 16);
        Check.put(x, "D3", 20);
        Check.put(x, "D10", 24);
        String[] corners = {"B1:D10", "D10:B1", "B10:D1", "D1:B10"};
        for (String corner : corners) {
            check.is(value(x, "=FIND(" + corner + ",4q)"), 4.0);
            check.is(value(x, "=FIND(" + corner + ",8q)"), 6.0);
        }
        check.is(value(x, "=FIND(B2:D10,4q)"), 5.0);
        check.is(value(x, "=FIND(B1:C10,4q)"), 3.0);
        check.is(value(x, "=FIND(B1:B10,4q)"), 1.0);
        check.is(value(x, "=FIND(B1:B1,4q)"), 1.0);
        check.is(value(x, "=FIND(B3:C10,4q)"), 0.0);
        check.is(Check.text(x, "F10"), "0.00");
        check.is(value(x, "=FIND(B1:E10,4q)"), 0.0);
        x.name(0, 0, Check.at("D3"), Check.at("B1"));
        check.is(value(x, "=FIND(N0,4q)"), 4.0);
        // An error there is its value; errors elsewhere are not.
        Check.tell(x, "D1", "=BY(1q,0q)");
        check.is(error(x, "=FIND(B1:D10,4q)"), 2);
        check.is(value(x, "=FIND(B1:D10,8q)"), 6.0);
    }

    private static void findMissing() {
        check.says("MISSING without one.");
        TabulaWorks x = new TabulaWorks();
        check.is(error(x, "=FIND(A1:B9,0q)"), 4);
        check.is(error(x, "=FIND(A1:B9,C1)"), 4);
        Check.put(x, "B1", 4);
        check.is(error(x, "=FIND(A1:B9,4q)"), 4);
        Check.put(x, "A2", 3);
        check.is(error(x, "=FIND(A1:B9,4q)"), 4);
        Check.put(x, "A10", 4);
        check.is(error(x, "=FIND(A1:B9,4q)"), 4);
        Check.tell(x, "A1", "=BY(1q,0q)");
        check.is(error(x, "=FIND(A1:B9,0q)"), 4);
        Check.put(x, "A9", 4);
        check.is(error(x, "=FIND(A1:B9,4q)"), 0);
    }

    // ---- reckoning held

    private static void held() {
        check.says("Reckoning can be HELD: VALUES of all CELLS stay as they were then, whatever is done, till it is let go, "
            + "or RECKONED once (it stays HELD by that).");
        for (int nth = 0; nth < Check.CHANGES; nth++) {
            TabulaWorks x = Check.sample();
            String before = values(x);
            x.hold(true);
            Check.change(x, nth);
            check.is(values(x), before);
            x.undo();
            check.is(values(x), before);
            x.redo();
            check.is(values(x), before);
            x.reckon();
            check.is(x.many(4), 1);
            TabulaWorks y = Check.sample();
            Check.change(y, nth);
            String after = values(y);
            check.is(values(x), after);
            x.undo();
            check.is(values(x), after);
            x.hold(false);
            check.is(values(x), before);
            check.is(x.many(4), 0);
        }
    }

    private static String values(TabulaWorks x) {
        StringBuilder all = new StringBuilder();
        for (int place = 0; place < 120; place++) {
            all.append(x.value(place / 60, place % 60)).append(' ').append(x.ofCell(place / 60, place % 60, 1)).append(' ');
            all.append(x.text(place / 60, place % 60).isEmpty()).append(' ');
        }
        return all.toString();
    }

    private static void heldPlaces() {
        check.says("VALUES move with nothing: each place of a SHEET keeps the VALUE that it showed.");
        TabulaWorks x = new TabulaWorks();
        Check.put(x, "A1", 4);
        Check.put(x, "A2", 8);
        Check.tell(x, "B2", "=BY(1q,0q)");
        x.hold(true);
        x.move(0, 0, 0, Check.at("C9"));
        check.is(Check.text(x, "A1") + Check.text(x, "C9"), "1.00");
        x.take(0, true, 0);
        check.is(Check.text(x, "A1") + Check.text(x, "A2") + Check.text(x, "B2") + Check.text(x, "B1"), "1.002.00!2");
        x.put(0, false, 0);
        x.sort(0, 0, 9, 1, true);
        check.is(Check.text(x, "A1") + Check.text(x, "A2") + Check.text(x, "B2") + Check.text(x, "B1"), "1.002.00!2");
        check.is(x.ofSheet(0, 2), 1);
        x.hold(false);
        check.is(Check.text(x, "A1") + Check.text(x, "A2"), "");
    }

    private static void stale() {
        check.says("A CELL is STALE, if its VALUE is not what it would be by reckoning now.");
        TabulaWorks x = new TabulaWorks();
        Check.tell(x, "A1", "=BY(1q,0q)");
        Check.put(x, "A2", 0);
        x.hold(true);
        check.is(x.ofSheet(0, 3), 0);
        // Nothing and 0.0 are two values; so are two errors, and an error and 0.0.
        Check.put(x, "B1", 0);
        check.is(Check.ask(x, "B1", 5), 1);
        x.clear(0, Check.at("A2"));
        check.is(Check.ask(x, "A2", 5), 1);
        Check.tell(x, "A1", "=PLUS(N0,0q)");
        check.is(Check.ask(x, "A1", 5), 1);
        Check.put(x, "A1", 0);
        check.is(Check.ask(x, "A1", 5), 1);
        check.is(x.ofSheet(0, 3) * 10 + x.ofSheet(1, 3), 30);
        // What would be again what is shown is not STALE, whatever it holds.
        Check.tell(x, "A1", "=BY(4q,A2)");
        check.is(Check.ask(x, "A1", 5), 0);
        Check.tell(x, "A2", "=LESS(1q,1q)");
        check.is(Check.ask(x, "A2", 5), 0);
        x.clear(0, Check.at("B1"));
        check.is(x.ofSheet(0, 3), 0);
        check.is(x.reckon(), 0);
    }
}
