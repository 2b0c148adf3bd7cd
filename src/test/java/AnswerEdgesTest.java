import java.math.BigInteger;

/** What the promises say of their answers, at the edges: nothing, none, all, held, equal, and what wraps around. */
public final class AnswerEdgesTest {
    private static final Check check = new Check("AnswerEdgesTest");

    private AnswerEdgesTest() {
    }

    public static void main(String[] args) {
        newObject();
        anotherValue();
        numberWhenHeld();
        errorOfFormula();
        heldAnything();
        nameByThat();
        goFarther();
        goneByThat();
        anotherPlace();
        hiddenThen();
        wasHidden();
        namesAsOperands();
        digitsBefore();
        wasLocked();
        wasHeld();
        staleAhead();
        keptStill();
        refusedEver();
        valueOfNothing();
        kinds();
        functionsOfCells();
        digitsLocksAndStale();
        neededEachOnce();
        neededByAll();
        neededBy();
        deep();
        deepNone();
        deepest();
        wordsOfNothing();
        wordsOfFormulas();
        wordsOfOperands();
        textOfErrors();
        textRounded();
        textSigns();
        textTooGreat();
        sheetsCounts();
        greatestLines();
        hiddenSet();
        namesOfNothing();
        manyCounts();
        manyCircles();
        manyDeep();
        groupsOfNone();
        groupsOfAll();
        groupKeys();
        groupSums();
        wouldOfNothing();
        wouldWhenHeld();
        goalNearest();
        goalTies();
        goalNone();
        breaksOfOthers();
        breaksWhenHeld();
        breaksLocked();
        sound();
        digestOrder();
        digestWraps();
        check.end();
    }

    private static void newObject() {
        check.says("Creates two SHEETS of EMPTY CELLS; reckoning is not HELD.");
        TabulaWorks x = new TabulaWorks();
        check.is(x.ofSheet(0, 0) + x.ofSheet(1, 0) + x.many(4) + x.many(5) + x.many(2) + x.many(3), 0);
        check.is(x.hold(false), false);
        check.is(x.isSound(), true);
        // One object has nothing of another one.
        x.number(0, 0, 4);
        x.ring();
        x.hold(true);
        TabulaWorks y = new TabulaWorks();
        check.is(Check.all(y), Check.all(new TabulaWorks()));
        check.is(y.ofSheet(0, 0) + y.many(4) + y.many(5), 0);
    }

    // ---- what is done

    private static void anotherValue() {
        check.says("Returns how many FORMULAS that are there then have another VALUE by that");
        TabulaWorks x = new TabulaWorks();
        Check.tell(x, "A2", "=PLUS(A1,0q)");
        Check.tell(x, 1, "A2", "=BY(4q,A1)");
        Check.tell(x, "A3", "=SUM(A1:A1)");
        Check.tell(x, "A4", "=COUNT(A1:A1)");
        // From nothing to 0.0: COUNT alone is another one.
        check.is(Check.put(x, "A1", 0), 1);
        check.is(Check.put(x, "A1", 0), 0);
        // Now the count stays as it is, the others do not.
        check.is(Check.put(x, "A1", 4), 3);
        check.is(Check.put(x, "A1", 0), 3);
        // A formula that is told over is none that is there then, others are, if just their error changes.
        Check.tell(x, "A1", "=PLUS(N0,0q)");
        check.is(Check.error(x, "A3"), 3);
        Check.tell(x, "B1", "=PLUS(A1,0q)");
        Check.tell(x, "A1", "=BY(1q,0q)");
        check.is(Check.error(x, "B1"), 2);
        check.is(Check.put(x, "A1", 4), 5);
        // A circle is broken.
        Check.tell(x, "C1", "=PLUS(C2,0q)");
        Check.tell(x, "C2", "=PLUS(C1,0q)");
        check.is(Check.put(x, "C1", 0), 1);
        check.is(Check.put(x, "F9", 4), 0);
    }

    private static void numberWhenHeld() {
        check.says("(0, if reckoning is HELD)");
        TabulaWorks x = new TabulaWorks();
        Check.tell(x, "A2", "=PLUS(A1,0q)");
        x.hold(true);
        check.is(Check.put(x, "A1", 4), 0);
        x.reckon();
        check.is(Check.put(x, "A1", 8), 0);
        x.hold(false);
        check.is(Check.put(x, "A1", 4), 1);
    }

    private static void errorOfFormula() {
        check.says("Returns the ERROR of its VALUE, 0 if that is a double; NONE, if reckoning is HELD.");
        TabulaWorks x = new TabulaWorks();
        Check.put(x, "B1", 100000);
        Check.tell(x, "B2", "=TIMES(B1,B1)");
        String[] all = {"=LESS(4q,4q)", "=PLUS(A1,0q)", "=BY(0q,0q)", "=SUM(N0)", "=FIND(C1:C1,0q)", "=TIMES(B2,B2)"};
        for (int error = 0; error <= 5; error++) {
            check.is(Check.tell(x, "A1", all[error]), error);
        }
        x.hold(true);
        for (int error = 0; error <= 5; error++) {
            check.is(Check.tell(x, "A1", all[error]), -1);
        }
        check.is(Check.error(x, "A1"), 5);
        x.reckon();
        check.is(Check.tell(x, "A1", all[0]), -1);
        x.hold(false);
        check.is(Check.tell(x, "A1", all[2]), 2);
    }

    private static void heldAnything() {
        check.says("Returns whether it held anything.");
        TabulaWorks x = new TabulaWorks();
        check.is(x.clear(0, 0), false);
        x.number(0, 0, 0);
        check.is(x.clear(1, 0), false);
        check.is(x.clear(0, 0), true);
        check.is(x.clear(0, 0), false);
        x.formula(0, 0, 9, 480, 0, 0);
        x.hold(true);
        check.is(x.clear(0, 0), true);
        // It shows something still, but holds nothing.
        check.is(Check.error(x, "A1"), 3);
        check.is(x.clear(0, 0), false);
    }

    private static void nameByThat() {
        check.says("Returns how many REFERENCES (OPERANDS of FORMULAS that are there then, those that are CORNERS, too) name the "
            + "other one by that; 0, if it is MOVED to itself.");
        TabulaWorks x = new TabulaWorks();
        check.is(x.move(0, 0, 0, 1), 0);
        Check.tell(x, "A2", "=CHOICE(A1,A1,$A$1)");
        Check.tell(x, "A3", "=FIND(A1:A1,A1)");
        Check.tell(x, 1, "A1", "=PLUS(A1,S1!A1)");
        Check.tell(x, "B1", "=PLUS(A1,A1)");
        x.name(0, 0, 0, 0);
        check.is(x.move(0, 0, 0, 0), 0);
        // B1 is moved over: it is no formula that is there then; corners of names are no operands.
        check.is(x.move(0, 0, 0, 1), 7);
        check.is(x.ofName(0, 1), 1);
        check.is(x.move(0, 1, 1, 30), 7);
        check.is(x.move(0, 1, 1, 30), 0);
        check.is(x.many(1), 7);
    }

    private static void goFarther() {
        check.says("Returns how many CELLS that hold something go farther.");
        TabulaWorks x = new TabulaWorks();
        x.number(0, 0, 0);
        x.fill(0, 0, 52);
        x.number(1, 0, 0);
        check.is(x.ofSheet(0, 0), 45);
        check.is(x.put(0, true, 9), 0);
        check.is(x.put(0, false, 5), 0);
        check.is(x.put(0, true, 8), 5);
        x.undo();
        check.is(x.put(0, false, 0), 45);
        x.undo();
        check.is(x.put(0, false, 4), 9);
        x.undo();
        check.is(x.put(0, true, 0), 45);
        check.is(x.put(1, true, 1), 0);
    }

    private static void goneByThat() {
        check.says("Returns how many OPERANDS of FORMULAS that are left are GONE by that.");
        TabulaWorks x = new TabulaWorks();
        Check.tell(x, "B1", "=CHOICE(A1,A2,A3)");
        Check.tellGone(x, "A4", "=CHOICE(A1,C2,D2)");
        // Formulas that are taken out themselves do not count, nor what was gone already.
        Check.tell(x, "A2", "=PLUS(A2,B2)");
        Check.tell(x, 1, "F10", "=FIND(A2:B2,A2)");
        check.is(x.take(0, true, 1), 1 + 2 + 3);
        check.is(Check.words(x, "A3"), "=CHOICE(?,?,?)");
        check.is(x.many(1), 1 + 3 + 3);
        check.is(x.take(0, true, 9), 0);
        check.is(x.take(0, true, 2), 0);
        check.is(x.take(0, false, 0), 2);
    }

    private static void anotherPlace() {
        check.says("Returns how many ROWS come to another place.");
        TabulaWorks x = new TabulaWorks();
        check.is(x.sort(0, 0, 9, 0, false), 0);
        for (int row = 0; row < 10; row++) {
            x.number(0, row * 6, row);
        }
        check.is(x.sort(0, 0, 9, 0, false), 0);
        check.is(x.sort(0, 0, 9, 0, true), 10);
        check.is(x.sort(0, 0, 9, 0, true), 0);
        check.is(x.sort(0, 0, 2, 0, false), 2);
        check.is(x.sort(0, 8, 9, 0, false), 2);
        check.is(x.sort(0, 0, 9, 1, false), 0);
    }

    private static void hiddenThen() {
        check.says("Returns how many ROWS are HIDDEN then.");
        TabulaWorks x = new TabulaWorks();
        x.number(0, 0, 0);
        x.number(0, 54, 0);
        for (int row = 0; row < 10; row++) {
            x.hide(0, row, true);
            x.hide(1, row, true);
        }
        check.is(x.filter(0, 0, 0), 8);
        check.is(x.filter(0, 0, 1), 10);
        check.is(x.filter(0, 0, 0), 8);
        x.fill(0, 0, 54);
        check.is(x.filter(0, 0, 0), 0);
        check.is(x.ofSheet(0, 5) * 10000 + x.ofSheet(1, 5), 1023);
        check.is(x.filter(1, 5, 0), 10);
    }

    private static void wasHidden() {
        check.says("HIDES a ROW, or not.");
        TabulaWorks x = new TabulaWorks();
        for (int row = 0; row < 10; row++) {
            check.is(x.hide(1, row, false), false);
            check.is(x.hide(1, row, true), false);
            check.is(x.hide(1, row, true), true);
        }
        check.is(x.ofSheet(0, 5) * 10000 + x.ofSheet(1, 5), 1023);
        check.is(x.hide(1, 0, false), true);
        check.is(x.hide(1, 0, false), false);
        check.is(x.ofSheet(1, 5), 1022);
    }

    private static void namesAsOperands() {
        check.says("Returns how many FORMULAS have that NAME as an OPERAND.");
        TabulaWorks x = new TabulaWorks();
        check.is(x.name(0, 0, 0, 0), 0);
        Check.tell(x, "A1", "=CHOICE(N0,N0,N0)");
        check.is(x.name(0, 0, 0, 0), 1);
        Check.tell(x, "A2", "=FIND(N0,N0)");
        Check.tell(x, "A3", "=FIND(N1,N0)");
        Check.tell(x, "A4", "=FIND(N0,N1)");
        Check.tell(x, 1, "A5", "=PLUS(1q,N0)");
        Check.tell(x, "A6", "=PLUS(N1,N2)");
        // As THREE of a function that has none it is no operand.
        x.formula(0, 40, 0, -500, -500, 480);
        x.formula(0, 41, 9, 481, 480, 480);
        check.is(x.name(0, 1, 59, 0), 5);
        check.is(x.ofName(0, 4) * 100 + x.ofName(1, 4) * 10 + x.ofName(2, 4), 541);
        check.is(x.name(1, 1, 59, 0), 4);
        check.is(x.name(2, 1, 59, 0), 1);
    }

    private static void digitsBefore() {
        check.says("Returns those before.");
        TabulaWorks x = new TabulaWorks();
        check.is(x.digits(0, 59, 2), 2);
        check.is(x.digits(0, 59, 0), 2);
        check.is(x.digits(0, 59, 1), 0);
        check.is(x.digits(1, 59, 1), 2);
        check.is(x.digits(0, 59, 1), 1);
        x.undo();
        x.undo();
        x.undo();
        check.is(x.digits(0, 59, 2), 0);
    }

    private static void wasLocked() {
        check.says("LOCKS a CELL, or not.");
        TabulaWorks x = new TabulaWorks();
        check.is(x.lock(1, 59, false), false);
        check.is(x.lock(1, 59, true), false);
        check.is(x.lock(1, 59, true), true);
        check.is(x.lock(0, 59, true), false);
        check.is(x.lock(1, 59, false), true);
        check.is(x.ofSheet(0, 4) * 10 + x.ofSheet(1, 4), 10);
        x.undo();
        check.is(x.lock(1, 59, false), true);
    }

    private static void wasHeld() {
        check.says("HOLDS reckoning, or lets it go (all is reckoned then).");
        TabulaWorks x = new TabulaWorks();
        check.is(x.hold(false), false);
        check.is(x.hold(true), false);
        x.number(0, 0, 4);
        check.is(x.hold(true), true);
        check.is(Check.text(x, "A1"), "");
        check.is(x.hold(false), true);
        check.is(Check.text(x, "A1"), "1.00");
        check.is(x.hold(false), false);
        check.is(x.many(4), 0);
    }

    private static void staleAhead() {
        check.says("Returns how many CELLS were STALE ahead of that.");
        TabulaWorks x = new TabulaWorks();
        check.is(x.reckon(), 0);
        x.number(0, 0, 4);
        check.is(x.reckon(), 0);
        x.hold(true);
        check.is(x.reckon(), 0);
        x.fill(0, 0, 59);
        x.number(1, 59, 0);
        check.is(x.reckon(), 60);
        check.is(x.reckon(), 0);
        x.clear(0, 0);
        check.is(x.reckon(), 1);
        check.is(x.many(4), 1);
        x.number(0, 0, 4);
        x.undo();
        check.is(x.reckon(), 0);
    }

    private static void keptStill() {
        check.says("Returns how many are kept to be undone still.");
        check.says("Returns how many are kept to be done again still.");
        TabulaWorks x = new TabulaWorks();
        x.number(0, 0, 4);
        check.is(x.undo(), 0);
        check.is(x.redo(), 0);
        for (int told = 0; told < 20; told++) {
            x.number(0, 0, told);
        }
        for (int k = 7; k >= 0; k--) {
            check.is(x.undo(), k);
            check.is(x.redo(), 7 - k);
            check.is(x.undo(), k);
        }
    }

    private static void refusedEver() {
        check.says("Returns how many were REFUSED ever, with this.");
        TabulaWorks x = new TabulaWorks();
        check.is(x.many(5), 0);
        check.is(x.ring(), 1);
        x.number(0, 0, 4);
        x.undo();
        check.is(x.ring(), 2);
        check.fails(x, Check.INDEX, () -> x.number(0, 60, 4));
        x.lock(0, 0, true);
        check.fails(x, Check.STATE, () -> x.number(0, 0, 4));
        check.is(x.ring(), 3);
        for (int nth = 4; nth <= 500; nth++) {
            check.is(x.ring(), nth);
        }
    }

    // ---- what is asked

    private static void valueOfNothing() {
        check.says("Returns its VALUE; 0.0, if that is nothing or an ERROR.");
        TabulaWorks x = new TabulaWorks();
        check.is(x.value(0, 0), 0.0);
        Check.put(x, "B1", 4);
        Check.tell(x, "A1", "=PLUS(B1,0q)");
        check.is(x.value(0, 0), 1.0);
        Check.tell(x, "A1", "=BY(B1,0q)");
        check.is(x.value(0, 0), 0.0);
        x.hold(true);
        x.clear(0, 1);
        check.is(x.value(0, 1), 1.0);
        x.reckon();
        check.is(x.value(0, 1), 0.0);
    }

    private static void kinds() {
        check.says("0 what it holds (0 nothing, 1 a NUMBER, 2 a FORMULA), 1 the ERROR that is its VALUE (0 without one)");
        TabulaWorks x = new TabulaWorks();
        check.is(x.ofCell(1, 59, 0) + x.ofCell(1, 59, 1), 0);
        x.number(1, 59, -100000);
        check.is(x.ofCell(1, 59, 0) * 10 + x.ofCell(1, 59, 1), 10);
        x.formula(1, 59, 0, 119, 119, 0);
        check.is(x.ofCell(1, 59, 0) * 10 + x.ofCell(1, 59, 1), 21);
        x.hold(true);
        x.clear(1, 59);
        check.is(x.ofCell(1, 59, 0) * 10 + x.ofCell(1, 59, 1), 1);
    }

    private static void functionsOfCells() {
        check.says("2 its FUNCTION (NONE without a FORMULA)");
        TabulaWorks x = new TabulaWorks();
        check.is(x.ofCell(0, 0, 2), -1);
        x.number(0, 0, 0);
        check.is(x.ofCell(0, 0, 2), -1);
        for (int function = 0; function <= 15; function++) {
            x.formula(0, 0, function, 1, 2, 3);
            check.is(x.ofCell(0, 0, 2), function);
        }
        x.clear(0, 0);
        check.is(x.ofCell(0, 0, 2), -1);
    }

    private static void digitsLocksAndStale() {
        check.says("3 DIGITS, 4 1 if it is LOCKED, otherwise 0, 5 1 if it is STALE, otherwise 0");
        TabulaWorks x = new TabulaWorks();
        check.is(x.ofCell(1, 59, 3) + " " + x.ofCell(1, 59, 4) + " " + x.ofCell(1, 59, 5), "2 0 0");
        x.hold(true);
        x.number(1, 59, 0);
        x.digits(1, 59, 0);
        x.lock(1, 59, true);
        check.is(x.ofCell(1, 59, 3) + " " + x.ofCell(1, 59, 4) + " " + x.ofCell(1, 59, 5), "0 1 1");
        check.is(x.ofCell(0, 59, 3) + " " + x.ofCell(0, 59, 4) + " " + x.ofCell(0, 59, 5), "2 0 0");
        x.reckon();
        check.is(x.ofCell(1, 59, 3) + " " + x.ofCell(1, 59, 4) + " " + x.ofCell(1, 59, 5), "0 1 0");
    }

    private static void neededEachOnce() {
        check.says("6 how many CELLS its FORMULA NEEDS (each once)");
        TabulaWorks x = new TabulaWorks();
        check.is(Check.ask(x, "A1", 6), 0);
        x.number(0, 0, 4);
        check.is(Check.ask(x, "A1", 6), 0);
        Check.tell(x, "A1", "=CHOICE(B1,$B1,B$1)");
        check.is(Check.ask(x, "A1", 6), 1);
        Check.tell(x, "A1", "=CHOICE(B1,S1!B1,A1)");
        check.is(Check.ask(x, "A1", 6), 3);
        Check.tell(x, "A1", "=FIND(A1:F10,A1)");
        check.is(Check.ask(x, "A1", 6), 60);
        Check.tell(x, "A1", "=FIND(A1:F10,S1!A1)");
        check.is(Check.ask(x, "A1", 6), 61);
        Check.tell(x, "A1", "=LESS(1q,1q)");
        check.is(Check.ask(x, "A1", 6), 0);
    }

    private static void neededByAll() {
        check.says("7 how many by all that these NEED, and so on, too (each once, itself, too, if one comes back to it)");
        TabulaWorks x = new TabulaWorks();
        check.is(Check.ask(x, "A1", 7), 0);
        Check.tell(x, "A1", "=PLUS(B1,C1)");
        check.is(Check.ask(x, "A1", 7), 2);
        Check.tell(x, "B1", "=PLUS(D1,C1)");
        check.is(Check.ask(x, "A1", 7), 3);
        Check.tell(x, "D1", "=PLUS(S1!A1,S1!A1)");
        check.is(Check.ask(x, "A1", 7), 4);
        Check.tell(x, 1, "A1", "=PLUS(A1,1q)");
        check.is(Check.ask(x, "A1", 7), 5);
        check.is(Check.ask(x, "C1", 7), 0);
        Check.tell(x, "F1", "=PLUS(A1,1q)");
        // It leads into the circle, but one does not come back to it.
        check.is(Check.ask(x, "F1", 7), 5);
        Check.tell(x, "F2", "=PLUS(F2,1q)");
        check.is(Check.ask(x, "F2", 7), 1);
    }

    private static void neededBy() {
        check.says("8 how many FORMULAS NEED it (each once)");
        TabulaWorks x = new TabulaWorks();
        check.is(Check.ask(x, "A1", 8), 0);
        Check.tell(x, "A1", "=CHOICE(A1,A1,A1)");
        check.is(Check.ask(x, "A1", 8), 1);
        Check.tell(x, 1, "A1", "=FIND(A1:F10,A1)");
        check.is(Check.ask(x, "A1", 8) + Check.ask(x, "F10", 8), 3);
        x.name(0, 0, 0, 59);
        Check.tell(x, 1, "A2", "=PLUS(N0,1q)");
        check.is(Check.ask(x, "A1", 8) + Check.ask(x, "F10", 8), 4);
        check.is(x.ofCell(1, 0, 8), 0);
        for (int cell = 1; cell < 60; cell++) {
            x.formula(0, cell, 0, 0, 0, 0);
        }
        check.is(Check.ask(x, "A1", 8), 62);
    }

    private static void deep() {
        check.says("9 how DEEP it is: 0 without a FORMULA, otherwise 1 more than the DEEPEST one of those that it NEEDS (1, if it "
            + "NEEDS none;");
        TabulaWorks x = new TabulaWorks();
        check.is(Check.ask(x, "A1", 9), 0);
        x.number(0, 0, 4);
        check.is(Check.ask(x, "A1", 9), 0);
        Check.tell(x, "A2", "=PLUS(1q,2q)");
        check.is(Check.ask(x, "A2", 9), 1);
        Check.tell(x, "A2", "=SUM(N0)");
        check.is(Check.ask(x, "A2", 9), 1);
        Check.tell(x, "A2", "=PLUS(A1,F9)");
        check.is(Check.ask(x, "A2", 9), 1);
        Check.tell(x, "A3", "=CHOICE(1q,A1,A2)");
        check.is(Check.ask(x, "A3", 9), 2);
        Check.tell(x, 1, "A3", "=FIND(A1:A2,A3)");
        check.is(x.ofCell(1, 12, 9), 3);
        Check.tell(x, "F10", "=SHOWN(S1!A1:S1!F10)");
        x.hide(1, 2, true);
        check.is(Check.ask(x, "F10", 9), 4);
        // By what is held, though nothing of it is reckoned.
        x.hold(true);
        Check.tell(x, "A2", "=LESS(B1,C1)");
        Check.tell(x, "B1", "=LESS(1q,C1)");
        check.is(Check.ask(x, "F10", 9), 5);
    }

    private static void deepNone() {
        check.says("NONE, if its VALUE would be CIRCLE by reckoning now, or one that is to be counted is NONE)");
        TabulaWorks x = new TabulaWorks();
        Check.tell(x, "A1", "=PLUS(A1,1q)");
        check.is(Check.ask(x, "A1", 9), -1);
        Check.tell(x, "A2", "=PLUS(A1,1q)");
        Check.tell(x, "A3", "=CHOICE(1q,1q,A2)");
        Check.tell(x, "A4", "=PLUS(A3,1q)");
        check.is(Check.ask(x, "A2", 9) + Check.ask(x, "A3", 9) + Check.ask(x, "A4", 9), -3);
        check.is(Check.error(x, "A4"), 0);
        // By reckoning now, not by what is shown.
        x.hold(true);
        x.number(0, 0, 4);
        check.is(Check.error(x, "A1"), 1);
        check.is(Check.ask(x, "A1", 9) + " " + Check.ask(x, "A2", 9) + " " + Check.ask(x, "A4", 9), "0 1 3");
        Check.tell(x, "A1", "=PLUS(A4,1q)");
        check.is(Check.ask(x, "A1", 9) + " " + Check.ask(x, "A4", 9), "-1 -1");
    }

    /** All 120 cells hold formulas, each of which needs the one ahead of it (or behind it). */
    private static TabulaWorks chain(boolean isAhead) {
        TabulaWorks x = new TabulaWorks();
        int first = isAhead ? 0 : 119;
        for (int place = 0; place < 120; place++) {
            int needed = place == first ? -500 : isAhead ? place - 1 : place + 1;
            x.formula(place / 60, place % 60, 0, needed, -499, 0);
        }
        return x;
    }

    private static void deepest() {
        check.says("otherwise 1 more than the DEEPEST one of those that it NEEDS");
        TabulaWorks x = chain(true);
        TabulaWorks y = chain(false);
        for (int place = 0; place < 120; place++) {
            check.is(x.ofCell(place / 60, place % 60, 9), place + 1);
            check.is(y.ofCell(place / 60, place % 60, 9), 120 - place);
            check.is(x.ofCell(place / 60, place % 60, 7), place);
            check.is(y.ofCell(place / 60, place % 60, 7), 119 - place);
            check.is(x.value(place / 60, place % 60), (place + 1) / 4.0);
        }
        check.is(x.many(7) + y.many(7), 240);
        check.is(x.digest(), digestOf(x));
        // What all of them would be, and would have, without some.
        check.is(x.would(0, 0, 5, 1, 59), 31.0);
        check.is(x.goal(0, 0, 1, 59, 140), 21);
        check.is(y.goal(1, 59, 0, 0, 119), 0);
        check.is(x.breaks(0, true, 0), 114);
        check.is(x.breaks(1, true, 9), 0);
        check.is(x.breaks(0, false, 0), 110);
        check.is(y.breaks(1, false, 5), 110);
        check.is(x.number(0, 0, -1), 119);
        check.is(x.many(7), 119);
    }

    private static void wordsOfNothing() {
        check.says("Returns what it holds, in words: \"\" if nothing; of a NUMBER its quarters as a whole number and \"q\"");
        TabulaWorks x = new TabulaWorks();
        check.is(x.words(1, 59), "");
        int[] told = {0, 1, -1, 100000, -100000};
        String[] due = {"0q", "1q", "-1q", "100000q", "-100000q"};
        for (int k = 0; k < told.length; k++) {
            x.number(1, 59, told[k]);
            check.is(x.words(1, 59), due[k]);
        }
        x.hold(true);
        x.clear(1, 59);
        check.is(x.words(1, 59), "");
    }

    private static void wordsOfFormulas() {
        check.says("of a FORMULA \"=\", the name of its FUNCTION as in section 1, \"(\", its OPERANDS with \",\" between two (of a "
            + "RANGE \"ONE:TWO\" as one), and \")\". A NUMBER in it as above; a NAME \"N0\" to \"N2\"");
        String[] names = {"PLUS", "LESS", "TIMES", "BY", "LESSER", "GREATER", "BELOW", "SAME", "CHOICE", "SUM", "COUNT", "MEAN",
            "LEAST", "MOST", "SHOWN", "FIND"};
        TabulaWorks x = new TabulaWorks();
        for (int function = 0; function <= 15; function++) {
            x.formula(0, 0, function, 1, 2, -1000);
            String between = function < 9 ? "," : ":";
            String third = function == 8 || function == 15 ? ",-500q" : "";
            check.is(x.words(0, 0), "=" + names[function] + "(B1" + between + "C1" + third + ")");
            x.formula(0, 0, function, 480, 481, 482);
            String second = function < 9 ? ",N1" : "";
            check.is(x.words(0, 0), "=" + names[function] + "(N0" + second + (third.isEmpty() ? "" : ",N2") + ")");
        }
    }

    private static void wordsOfOperands() {
        check.says("\"S\" and the number of its SHEET and \"!\", if that is not the FORMULA's own, then \"$\", if the COLUMN is "
            + "FIXED, its letter, \"$\", if the ROW is FIXED, and its name as a number; \"?\" alone, if it is GONE.");
        TabulaWorks x = new TabulaWorks();
        Check.tell(x, 0, "C5", "=CHOICE($A$10,S1!F$1,S1!$F10)");
        Check.tell(x, 1, "C5", "=CHOICE($A$10,S1!F$1,S1!$F10)");
        check.is(x.words(0, 26) + x.words(1, 26), "=CHOICE($A$10,S1!F$1,S1!$F10)=CHOICE(S0!$A$10,F$1,$F10)");
        Check.tellGone(x, "A5", "=CHOICE(A1,S1!A1,$A1)");
        check.is(Check.words(x, "A5"), "=CHOICE(?,?,$A1)");
        Check.tellGone(x, "A5", "=SUM(A1:A2)");
        check.is(Check.words(x, "A5"), "=SUM(?:?)");
        Check.tellGone(x, "A5", "=FIND(B1:A2,A3)");
        check.is(Check.words(x, "A5"), "=FIND(A1:?,?)");
        // Its own sheet is that where it is, not where it was.
        x.move(0, 26, 1, 20);
        check.is(x.words(1, 20), "=CHOICE(S0!$A$10,F$1,$F10)");
        Check.tell(x, "D5", "=CHOICE(-500q,0q,499q)");
        check.is(Check.words(x, "D5"), "=CHOICE(-500q,0q,499q)");
    }

    private static void textOfErrors() {
        check.says("Returns what it shows: \"\" of nothing, \"!\" and the ERROR's number, or the double to its DIGITS");
        TabulaWorks x = new TabulaWorks();
        check.is(x.text(0, 0), "");
        Check.put(x, "B1", 100000);
        Check.tell(x, "B2", "=TIMES(B1,B1)");
        String[] all = {"=PLUS(A1,0q)", "=BY(0q,0q)", "=SUM(N0)", "=FIND(C1:C1,0q)", "=TIMES(B2,B2)"};
        for (int error = 1; error <= 5; error++) {
            Check.tell(x, "A1", all[error - 1]);
            for (int digits = 0; digits <= 2; digits++) {
                x.digits(0, 0, digits);
                check.is(x.text(0, 0), "!" + error);
            }
        }
        x.hold(true);
        x.clear(0, 0);
        check.is(x.text(0, 0), "!5");
        x.digits(0, 1, 0);
        check.is(x.text(0, 1), "25000");
    }

    /** Shows a quotient of two numbers of quarters. */
    private static String shown(int one, int two, int digits) {
        TabulaWorks x = new TabulaWorks();
        x.number(0, 0, one);
        x.number(0, 1, two);
        Check.tell(x, "C1", "=BY(A1,B1)");
        x.digits(0, 2, digits);
        return Check.text(x, "C1");
    }

    private static void textRounded() {
        check.says("10 ^ DIGITS times it (in double) to the nearest whole number (of two as near the even one)");
        int[] halves = {1, 3, 5, 7, -1, -3, -5, -7};
        String[] due = {"0", "2", "2", "4", "0", "-2", "-2", "-4"};
        for (int k = 0; k < halves.length; k++) {
            check.is(shown(halves[k], 2, 0), due[k]);
        }
        check.is(shown(1, 4, 1) + shown(3, 4, 1) + shown(-1, 4, 1) + shown(-3, 4, 1), "0.20.8-0.2-0.8");
        check.is(shown(1, 8, 2) + shown(3, 8, 2) + shown(5, 8, 2) + shown(7, 8, 2), "0.120.380.620.88");
        check.is(shown(-1, 8, 2) + shown(-3, 8, 2), "-0.12-0.38");
        check.is(shown(2, 3, 0) + shown(2, 3, 1) + shown(2, 3, 2), "10.70.67");
        check.is(shown(1, 3, 0) + shown(1, 3, 1) + shown(1, 3, 2), "00.30.33");
        // 100 * 1.005 is below 100.5, and 100 * 0.285 is above 28.499..: as doubles are.
        check.is(shown(201, 200, 2), Math.rint(100.0 * (201 / 200.0)) == 100.0 ? "1.00" : "1.01");
        check.is(shown(57, 200, 2), Math.rint(100.0 * (57 / 200.0)) == 28.0 ? "0.28" : "0.29");
    }

    private static void textSigns() {
        check.says("with a point ahead of its last DIGITS digits (none with 0), at least one digit ahead of that, and \"-\" ahead of "
            + "all, if that whole number is below 0");
        check.is(shown(0, 4, 0) + shown(0, 4, 1) + shown(0, 4, 2), "00.00.00");
        check.is(shown(1, 20, 2) + shown(1, 100, 2) + shown(1, 10, 1), "0.050.010.1");
        check.is(shown(-1, 20, 2) + shown(-1, 100, 2) + shown(-1, 10, 1), "-0.05-0.01-0.1");
        check.is(shown(-1, 1000, 2) + shown(-1, 100, 1) + shown(-1, 10, 0), "0.000.00");
        check.is(shown(-1, 200, 2), "0.00");
        check.is(shown(101, 100, 2) + shown(-101, 100, 2) + shown(100, 10, 1) + shown(1234, 1, 0), "1.01-1.0110.01234");
    }

    private static void textTooGreat() {
        check.says("\"#\", if it is 1000000 or more, or -1000000 or less.");
        TabulaWorks x = new TabulaWorks();
        Check.put(x, "B1", 40000);
        Check.tell(x, "A1", "=TIMES(B1,400q)");
        String[] words = {"=PLUS(A1,0q)", "=LESS(A1,1q)", "=LESS(A1,2q)", "=LESS(A1,3q)", "=LESS(A1,4q)"};
        String[] due = {"#", "#", "#", "999999", "999999"};
        for (int k = 0; k < words.length; k++) {
            Check.tell(x, "C1", words[k]);
            Check.tell(x, "C2", "=LESS(0q,C1)");
            x.digits(0, 2, 0);
            x.digits(0, 8, 0);
            check.is(Check.text(x, "C1"), due[k]);
            check.is(Check.text(x, "C2"), due[k].equals("#") ? "#" : "-" + due[k]);
        }
        check.is(shown(40000, 4, 2) + shown(39999, 4, 2) + shown(-40000, 4, 2) + shown(-39999, 4, 2), "#9999.75#-9999.75");
        // 9999.995 rounds to as many as 1000000 hundredths, 99999.95 to as many tenths.
        TabulaWorks y = new TabulaWorks();
        y.number(0, 0, 40000);
        Check.tell(y, "B1", "=BY(2q,400q)");
        Check.tell(y, "C1", "=LESS(A1,B1)");
        check.is(Check.text(y, "C1"), Math.rint(100.0 * (10000.0 - 0.005)) == 1000000.0 ? "#" : "9999.99");
        Check.tell(y, "B1", "=BY(4q,400q)");
        check.is(Check.text(y, "C1"), "9999.99");
        Check.tell(y, "B1", "=BY(1q,400q)");
        check.is(Check.text(y, "C1"), "#");
        y.digits(0, 2, 1);
        check.is(Check.text(y, "C1"), "10000.0");
        Check.tell(y, "C1", "=TIMES(A1,40q)");
        check.is(Check.text(y, "C1"), "#");
        Check.tell(y, "C2", "=TIMES(C1,400q)");
        Check.tell(y, "C3", "=TIMES(C2,400q)");
        check.is(Check.text(y, "C2") + Check.text(y, "C3"), "#" + "#");
    }

    private static void sheetsCounts() {
        check.says("0 CELLS that hold something, 1 FORMULAS, 2 CELLS whose VALUE is an ERROR, 3 STALE ones, 4 LOCKED ones");
        TabulaWorks x = new TabulaWorks();
        x.formula(1, 0, 3, -499, -500, 0);
        x.fill(1, 0, 59);
        check.is(x.ofSheet(1, 0) + x.ofSheet(1, 1) + x.ofSheet(1, 2), 180);
        check.is(x.ofSheet(0, 0) + x.ofSheet(0, 1) + x.ofSheet(0, 2), 0);
        x.hold(true);
        x.number(1, 0, 0);
        x.fill(1, 0, 59);
        check.is(x.ofSheet(1, 0) + " " + x.ofSheet(1, 1) + " " + x.ofSheet(1, 2) + " " + x.ofSheet(1, 3), "60 0 60 60");
        check.is(x.ofSheet(0, 3), 0);
        for (int cell = 0; cell < 60; cell++) {
            check.is(x.ofSheet(0, 4), cell);
            x.lock(0, cell, true);
        }
        check.is(x.ofSheet(0, 4) * 100 + x.ofSheet(1, 4), 6000);
        x.clear(1, 59);
        check.is(x.ofSheet(1, 0), 59);
    }

    private static void greatestLines() {
        check.says("6 the greatest ROW that holds something (NONE), 7 the greatest COLUMN likewise");
        TabulaWorks x = new TabulaWorks();
        check.is(x.ofSheet(0, 6) + x.ofSheet(0, 7) + x.ofSheet(1, 6) + x.ofSheet(1, 7), -4);
        x.number(0, 0, 0);
        check.is(x.ofSheet(0, 6) + x.ofSheet(0, 7), 0);
        x.number(0, 5, 0);
        check.is(x.ofSheet(0, 6) * 10 + x.ofSheet(0, 7), 5);
        x.number(0, 54, 0);
        check.is(x.ofSheet(0, 6) * 10 + x.ofSheet(0, 7), 95);
        x.clear(0, 5);
        check.is(x.ofSheet(0, 6) * 10 + x.ofSheet(0, 7), 90);
        check.is(x.ofSheet(1, 6) + x.ofSheet(1, 7), -2);
        // What it shows, while it is HELD, is not what it holds.
        x.hold(true);
        x.clear(0, 54);
        x.clear(0, 0);
        check.is(x.ofSheet(0, 6) + x.ofSheet(0, 7), -2);
        check.is(Check.text(x, "A1"), "0.00");
    }

    private static void hiddenSet() {
        check.says("5 HIDDEN ROWS (as a set: the sum of 2^k for each of them)");
        TabulaWorks x = new TabulaWorks();
        check.is(x.ofSheet(0, 5), 0);
        int sum = 0;
        for (int row = 9; row >= 0; row--) {
            x.hide(0, row, true);
            sum += 1 << row;
            check.is(x.ofSheet(0, 5), sum);
        }
        check.is(x.ofSheet(0, 5), 1023);
        check.is(x.ofSheet(1, 5), 0);
    }

    private static void namesOfNothing() {
        check.says("0 its SHEET, 1 the one CORNER, 2 the other CORNER (0 to 2: NONE, if it names nothing), 3 how many CELLS it names, "
            + "4 how many FORMULAS have it as an OPERAND");
        TabulaWorks x = new TabulaWorks();
        Check.tell(x, "A1", "=PLUS(N1,N1)");
        check.is(Check.named(x, 1) + " " + x.ofName(1, 3) + " " + x.ofName(1, 4), "-1 -1 -1 0 1");
        x.name(1, 1, 59, 59);
        check.is(Check.named(x, 1) + " " + x.ofName(1, 3) + " " + x.ofName(1, 4), "1 59 59 1 1");
        x.name(1, 0, 59, 0);
        check.is(Check.named(x, 1) + " " + x.ofName(1, 3) + " " + x.ofName(1, 4), "0 59 0 60 1");
        x.move(0, 30, 0, 59);
        check.is(Check.named(x, 1) + " " + x.ofName(1, 3) + " " + x.ofName(1, 4), "-1 -1 -1 0 1");
        x.clear(0, 0);
        check.is(x.ofName(1, 4), 0);
    }

    private static void manyCounts() {
        check.says("0 FORMULAS on both SHEETS, 1 OPERANDS that are GONE, 2 how many are kept to be undone, 3 to be done again, 4 1 if "
            + "reckoning is HELD, otherwise 0, 5 how many were REFUSED");
        TabulaWorks x = new TabulaWorks();
        check.is(x.many(0) + x.many(1) + x.many(2) + x.many(3) + x.many(4) + x.many(5), 0);
        x.formula(0, 1, 8, 0, 0, 0);
        x.copy(0, 1, 0, 0);
        x.fill(0, 0, 54);
        x.copy(0, 1, 1, 0);
        x.number(1, 59, 0);
        // B1, the ten below A1 and S1!A1; each of the latter eleven has three that are gone, and B1 none.
        check.is(x.many(0) + " " + x.many(1), "12 33");
        x.undo();
        x.undo();
        check.is(x.many(0) + " " + x.many(1) + " " + x.many(2) + " " + x.many(3), "11 30 3 2");
        x.hold(true);
        x.ring();
        check.is(x.many(4) + x.many(5), 2);
        x.reckon();
        check.is(x.many(4), 1);
        x.hold(false);
        check.is(x.many(4), 0);
    }

    private static void manyCircles() {
        check.says("6 FORMULAS from which one comes back to themselves");
        TabulaWorks x = new TabulaWorks();
        check.is(x.many(6), 0);
        Check.tell(x, "A1", "=PLUS(A1,1q)");
        Check.tell(x, "A2", "=PLUS(A1,1q)");
        check.is(x.many(6), 1);
        Check.tell(x, 1, "A1", "=SUM(S1!A2:S1!A2)");
        Check.tell(x, 1, "A2", "=CHOICE(0q,S1!A1,1q)");
        check.is(x.many(6), 3);
        // As it would be now: held or not, and whatever is shown.
        x.hold(true);
        x.number(0, 0, 4);
        check.is(x.many(6), 2);
        check.is(Check.error(x, "A2"), 1);
    }

    private static void manyDeep() {
        check.says("7 the DEEPEST one (0 without a FORMULA; NONE ones do not count)");
        TabulaWorks x = new TabulaWorks();
        check.is(x.many(7), 0);
        x.number(0, 0, 4);
        check.is(x.many(7), 0);
        Check.tell(x, "F1", "=PLUS(F1,1q)");
        Check.tell(x, "F2", "=PLUS(F1,A1)");
        check.is(x.many(7), 0);
        Check.tell(x, "A2", "=PLUS(1q,1q)");
        check.is(x.many(7), 1);
        Check.tell(x, 1, "F10", "=PLUS(A2,1q)");
        Check.tell(x, "F3", "=PLUS(S1!F10,F2)");
        check.is(x.many(7), 2);
        Check.put(x, "F1", 4);
        check.is(x.many(7), 3);
    }

    private static void groupsOfNone() {
        check.says("Returns that; 0.0, if there is no such group.");
        TabulaWorks x = new TabulaWorks();
        for (int nth = 0; nth < 10; nth++) {
            check.is(x.group(0, 0, 0, nth, nth % 3), 0.0);
        }
        Check.put(x, "A1", 4);
        Check.put(x, "B2", 4);
        check.is(x.group(0, 0, 1, 0, 2), 0.0);
        Check.put(x, "B1", 8);
        check.is(x.group(0, 0, 1, 0, 0) + x.group(0, 0, 1, 0, 1) + x.group(0, 0, 1, 0, 2), 1.0 + 2.0 + 1.0);
        check.is(x.group(0, 0, 1, 1, 0) + x.group(0, 0, 1, 1, 1) + x.group(0, 0, 1, 1, 2), 0.0);
        check.is(x.group(1, 0, 1, 0, 2), 0.0);
        x.hide(0, 0, true);
        check.is(x.group(0, 0, 1, 0, 2), 0.0);
        x.hide(0, 0, false);
        Check.tell(x, "B1", "=BY(1q,0q)");
        check.is(x.group(0, 0, 1, 0, 2), 0.0);
        check.is(x.group(0, 0, 0, 0, 2), 1.0);
        Check.tell(x, "A1", "=BY(1q,0q)");
        check.is(x.group(0, 0, 0, 0, 2), 0.0);
    }

    private static void groupsOfAll() {
        check.says("of all ROWS those that are not HIDDEN and have a double as VALUE in a COLUMN (the key) and in another one.");
        TabulaWorks x = new TabulaWorks();
        for (int row = 0; row < 10; row++) {
            x.number(1, row * 6 + 5, 36 - 4 * row);
            x.number(1, row * 6, row * 4);
        }
        for (int nth = 0; nth < 10; nth++) {
            check.is(x.group(1, 5, 0, nth, 0), (double) nth);
            check.is(x.group(1, 5, 0, nth, 1), 9.0 - nth);
            check.is(x.group(1, 5, 0, nth, 2), 1.0);
        }
        for (int row = 0; row < 10; row++) {
            x.number(1, row * 6 + 5, -4);
        }
        check.is(x.group(1, 5, 0, 0, 0) + " " + x.group(1, 5, 0, 0, 1) + " " + x.group(1, 5, 0, 0, 2), "-1.0 45.0 10.0");
        check.is(x.group(1, 5, 0, 1, 2), 0.0);
        for (int row = 0; row < 10; row++) {
            x.hide(1, row, true);
            check.is(x.group(1, 5, 0, 0, 2), 9.0 - row);
        }
        // By what is shown, while it is HELD; by the rows that are HIDDEN now.
        x.hide(1, 3, false);
        x.hold(true);
        x.clear(1, 18);
        x.number(1, 23, 400);
        check.is(x.group(1, 5, 0, 0, 0) + " " + x.group(1, 5, 0, 0, 1) + " " + x.group(1, 5, 0, 0, 2), "-1.0 3.0 1.0");
        x.hide(1, 3, true);
        check.is(x.group(1, 5, 0, 0, 2), 0.0);
        // Keys are shown ones, too: 1.0, 2.0 and 3.0, whatever they would be.
        TabulaWorks y = new TabulaWorks();
        for (int row = 0; row < 3; row++) {
            y.number(0, row * 6, 4 * row + 4);
        }
        y.hold(true);
        y.number(0, 0, 400);
        y.clear(0, 6);
        y.number(0, 12, -400);
        y.number(0, 18, 4);
        for (int nth = 0; nth < 4; nth++) {
            check.is(y.group(0, 0, 0, nth, 0), nth < 3 ? nth + 1.0 : 0.0);
            check.is(y.group(0, 0, 0, nth, 2), nth < 3 ? 1.0 : 0.0);
        }
    }

    private static void groupKeys() {
        check.says("which group, from the smallest key on");
        TabulaWorks x = new TabulaWorks();
        // A third and one less two thirds are two keys; 0.0, however it comes about, is one.
        Check.tell(x, "A1", "=LESS(4q,F1)");
        Check.tell(x, "F1", "=BY(8q,12q)");
        Check.tell(x, "A2", "=BY(4q,12q)");
        Check.put(x, "A3", 0);
        Check.put(x, "A4", -100000);
        Check.tell(x, "A5", "=TIMES(A4,A3)");
        Check.put(x, "A6", 100000);
        for (int row = 0; row < 6; row++) {
            x.number(0, row * 6 + 1, 4 << row);
        }
        double third = 4.0 / 12.0;
        check.is(third == 1.0 - 2.0 / 3.0, false);
        check.is(x.group(0, 0, 1, 0, 0), -25000.0);
        check.is(x.group(0, 0, 1, 1, 0) + " " + x.group(0, 0, 1, 1, 1) + " " + x.group(0, 0, 1, 1, 2), "0.0 20.0 2.0");
        check.is(x.group(0, 0, 1, 2, 0), Math.min(third, 1.0 - 2.0 / 3.0));
        check.is(x.group(0, 0, 1, 3, 0), Math.max(third, 1.0 - 2.0 / 3.0));
        check.is(x.group(0, 0, 1, 4, 0), 25000.0);
        check.is(x.group(0, 0, 1, 5, 0), 0.0);
        // The sum is no function's: it is never GREAT.
        TabulaWorks y = new TabulaWorks();
        Check.put(y, "C1", 100000);
        Check.tell(y, "C2", "=TIMES(C1,160q)");
        Check.tell(y, "C3", "=TIMES(C2,400q)");
        Check.tell(y, "B1", "=TIMES($C$3,40q)");
        y.fill(0, 1, 55);
        Check.put(y, "A1", 4);
        y.fill(0, 0, 54);
        check.is(y.value(0, 55), 1000000000.0);
        check.is(y.group(0, 0, 1, 0, 1), 10000000000.0);
    }

    private static void groupSums() {
        check.says("0 its key, 1 the sum (from 0.0 on, from above), 2 how many ROWS it has");
        TabulaWorks x = new TabulaWorks();
        for (int row = 0; row < 3; row++) {
            x.number(0, row * 18, -4);
            x.formula(0, row * 18 + 1, 3, 4 * row - 496, -460, 0);
        }
        // Other orders of 0.1, 0.2 and 0.3 answer something else; one without another begins from 0.0.
        check.is(x.value(0, 37), 0.3);
        check.is(x.group(0, 0, 1, 0, 1), 0.1 + 0.2 + 0.3);
        check.is(x.group(0, 1, 1, 2, 1), 0.3);
        check.is(x.group(0, 0, 1, 0, 0) + " " + x.group(0, 0, 1, 0, 2), "-1.0 3.0");
        x.hide(0, 0, true);
        check.is(x.group(0, 0, 1, 0, 1), 0.2 + 0.3);
        check.is(x.group(0, 0, 0, 0, 1), -2.0);
    }

    // ---- what would be

    private static void wouldOfNothing() {
        check.says("Returns what VALUE that would have, if the first one held that NUMBER (whether LOCKED or not); 0.0, if nothing or "
            + "an ERROR.");
        TabulaWorks x = new TabulaWorks();
        check.is(x.would(0, 0, 100000, 0, 0), 25000.0);
        check.is(x.would(0, 0, -100000, 0, 0), -25000.0);
        check.is(x.would(0, 0, 4, 0, 1), 0.0);
        check.is(x.would(0, 0, 4, 1, 0), 0.0);
        Check.tell(x, "B1", "=BY(4q,A1)");
        check.is(x.would(0, 0, 8, 0, 1), 0.5);
        check.is(x.would(0, 0, 0, 0, 1), 0.0);
        x.lock(0, 0, true);
        x.lock(0, 1, true);
        check.is(x.would(0, 0, 8, 0, 1), 0.5);
        check.is(x.would(0, 1, 8, 0, 1), 2.0);
        check.is(Check.words(x, "B1") + Check.words(x, "A1"), "=BY(4q,A1)");
        // It would be no formula then, and in no circle.
        Check.tell(x, "C1", "=PLUS(C2,4q)");
        Check.tell(x, "C2", "=PLUS(C1,4q)");
        check.is(x.would(0, 2, 4, 0, 8) + x.would(0, 8, 4, 0, 2), 4.0);
        check.is(Check.error(x, "C1"), 1);
    }

    private static void wouldWhenHeld() {
        check.says("what would be (nothing is changed; reckoned as if it was not HELD)");
        TabulaWorks x = new TabulaWorks();
        Check.put(x, "A1", 4);
        Check.tell(x, "B1", "=PLUS(A1,A2)");
        x.hold(true);
        Check.put(x, "A2", 40);
        Check.tell(x, "B2", "=PLUS(B1,4q)");
        check.is(x.would(0, 0, 8, 0, 7), 13.0);
        check.is(x.goal(0, 0, 0, 7, 48), 4);
        check.is(Check.value(x, "B1"), 1.0);
        check.is(Check.text(x, "B2"), "");
        check.is(x.ofSheet(0, 3), 3);
        check.is(x.many(4), 1);
        // Rows that are HIDDEN now count, too.
        Check.tell(x, "C1", "=SHOWN(A1:A2)");
        x.hide(0, 1, true);
        check.is(x.would(0, 0, 8, 0, 2), 2.0);
    }

    private static void goalNearest() {
        check.says("Returns the NUMBER in quarters, of -40 to 40, with which the first CELL would make the VALUE of the other one a "
            + "double as near to the goal as can be");
        TabulaWorks x = new TabulaWorks();
        for (int quarters = -45; quarters <= 45; quarters++) {
            check.is(x.goal(0, 0, 0, 0, quarters), Math.max(-40, Math.min(40, quarters)));
        }
        check.is(x.goal(0, 0, 0, 0, -100000), -40);
        check.is(x.goal(0, 0, 0, 0, 100000), 40);
        Check.tell(x, 1, "F10", "=LESS(0q,A1)");
        check.is(x.goal(0, 0, 1, 59, 40), -40);
        check.is(x.goal(0, 0, 1, 59, -41), 40);
        // The one best of all 81.
        for (int best = -40; best <= 40; best += 5) {
            Check.tell(x, 1, "F10", "=SAME(A1," + best + "q)");
            check.is(x.goal(0, 0, 1, 59, 4), best);
        }
        // Errors by some are left aside.
        Check.tell(x, 1, "F10", "=BY(4q,A1)");
        check.is(x.goal(0, 0, 1, 59, 0), 40);
        Check.tell(x, 1, "F9", "=SAME(A1,-7q)");
        Check.tell(x, 1, "F10", "=BY(A1,S1!F9)");
        check.is(x.goal(0, 0, 1, 59, 100000), -7);
        // As it is now does not count, if that is not of -40 to 40.
        Check.put(x, "A1", 400);
        check.is(x.goal(0, 0, 0, 0, 400), 40);
        x.lock(0, 0, true);
        check.is(x.goal(0, 0, 0, 0, 12), 12);
    }

    private static void goalTies() {
        check.says("of several that which is nearest to 0, of two that above 0");
        TabulaWorks x = new TabulaWorks();
        Check.tell(x, "B1", "=TIMES(A1,A1)");
        for (int k = 1; k <= 10; k++) {
            check.is(x.goal(0, 0, 0, 1, 4 * k * k), 4 * k);
        }
        Check.tell(x, "B1", "=PLUS(4q,4q)");
        check.is(x.goal(0, 0, 0, 1, 100000), 0);
        Check.tell(x, "B1", "=BELOW(8q,B2)");
        Check.tell(x, "B2", "=TIMES(A1,A1)");
        // Above 2.0 from 6 quarters on, on both sides of 0: 6 and -6 are as near to it.
        check.is(x.goal(0, 0, 0, 1, 4), 6);
        Check.tell(x, "B1", "=BELOW(A1,-3q)");
        check.is(x.goal(0, 0, 0, 1, 4), -4);
        // Two that are as far from the goal, one below and one above it.
        Check.tell(x, "B1", "=TIMES(A1,8q)");
        check.is(x.goal(0, 0, 0, 1, 1), 0);
        check.is(x.goal(0, 0, 0, 1, 3), 1);
        check.is(x.goal(0, 0, 0, 1, -3), -1);
        check.is(x.goal(0, 0, 0, 1, -1), 0);
        Check.tell(x, "B1", "=CHOICE(A1,A1,N0)");
        check.is(x.goal(0, 0, 0, 1, 0), 1);
        // In double all that is as small as this is as far from 25000.0, though it is not from 0.0.
        Check.tell(x, "C1", "=BY(A1,D1)");
        Check.put(x, "D1", 100000);
        for (int row = 2; row <= 4; row++) {
            Check.tell(x, "C" + row, "=BY(C" + (row - 1) + ",D1)");
        }
        check.is(x.goal(0, 0, 0, Check.at("C4"), 100000), 0);
        check.is(x.goal(0, 0, 0, Check.at("C4"), 0), 0);
        check.is(x.goal(0, 0, 0, Check.at("C1"), 100000), 40);
    }

    private static void goalNone() {
        check.says("NONE less 1000 (that is -1001), if it would be no double by any.");
        TabulaWorks x = new TabulaWorks();
        check.is(x.goal(0, 0, 0, 1, 0), -1001);
        check.is(x.goal(0, 0, 1, 0, 0), -1001);
        Check.tell(x, "B1", "=BY(A1,0q)");
        check.is(x.goal(0, 0, 0, 1, 0), -1001);
        Check.tell(x, "B1", "=PLUS(B1,A1)");
        check.is(x.goal(0, 0, 0, 1, 0), -1001);
        check.is(x.goal(0, 1, 0, 1, -3), -3);
        Check.tell(x, "B2", "=SAME(A1,40q)");
        Check.tell(x, "B3", "=BY(4q,B2)");
        check.is(x.goal(0, 0, 0, 13, -100000), 40);
        Check.tell(x, "B2", "=SAME(A1,41q)");
        check.is(x.goal(0, 0, 0, 13, 0), -1001);
        Check.tell(x, "B2", "=SAME(A1,-40q)");
        check.is(x.goal(0, 0, 0, 13, 100000), -40);
    }

    private static void breaksOfOthers() {
        check.says("Returns how many FORMULAS on both SHEETS (that are not taken out themselves) would come to have an ERROR as their "
            + "VALUE, that have none, if it was TAKEN OUT");
        TabulaWorks x = new TabulaWorks();
        for (int line = 0; line < 10; line++) {
            check.is(x.breaks(0, true, line) + x.breaks(1, false, line % 6), 0);
        }
        Check.tell(x, "A1", "=PLUS(A2,A1)");
        Check.tell(x, "B1", "=PLUS(A2,1q)");
        Check.tell(x, "A2", "=PLUS(B2,1q)");
        Check.tell(x, "B3", "=PLUS(B1,A2)");
        Check.tell(x, 1, "A2", "=SUM(A2:B2)");
        Check.tell(x, 1, "A3", "=SUM(A2:B3)");
        Check.tell(x, 1, "A4", "=CHOICE(1q,1q,A2)");
        Check.tell(x, "B4", "=BY(A2,0q)");
        // B1, B3 and S1!A2: A1 and B4 have an error, A2 is taken out itself, S1!A3 finds what B3 is, an error.
        check.is(x.breaks(0, true, 1), 4);
        check.is(x.breaks(0, true, 9), 0);
        check.is(x.breaks(1, true, 1), 0);
        // Column B: A2 has lost B2, and with it both sums.
        check.is(x.breaks(0, false, 1), 3);
        check.is(x.breaks(0, false, 5), 0);
        check.is(x.many(0), 8);
        // A name that would name nothing.
        TabulaWorks y = new TabulaWorks();
        y.name(0, 0, 0, 5);
        y.name(1, 0, 0, 11);
        Check.tell(y, "F10", "=SUM(N0)");
        Check.tell(y, "F9", "=SUM(N1)");
        check.is(y.breaks(0, true, 0), 1);
        check.is(y.breaks(0, true, 1), 0);
        check.is(Check.named(y, 0), "0 0 5");
    }

    private static void breaksWhenHeld() {
        check.says("what would be (nothing is changed; reckoned as if it was not HELD)");
        TabulaWorks x = new TabulaWorks();
        Check.tell(x, "B1", "=PLUS(A2,1q)");
        Check.tell(x, "B3", "=BY(A2,0q)");
        x.hold(true);
        // B1 shows a double, but would have an error ahead of it; B3 the other way round; B5 shows nothing.
        Check.tell(x, "B1", "=BY(A2,0q)");
        Check.tell(x, "B3", "=PLUS(A2,1q)");
        Check.tell(x, "B5", "=PLUS(A2,1q)");
        check.is(Check.error(x, "B1") * 10 + Check.error(x, "B3"), 2);
        check.is(x.breaks(0, true, 1), 2);
        check.is(x.breaks(0, false, 0), 2);
        x.clear(0, 1);
        check.is(x.breaks(0, true, 1), 2);
        Check.tell(x, "B1", "=BY(A2,0q)");
        x.clear(0, Check.at("B5"));
        x.clear(0, Check.at("B3"));
        check.is(x.breaks(0, true, 1), 0);
        x.hold(false);
        check.is(x.breaks(0, true, 1), 0);
    }

    private static void breaksLocked() {
        check.says("if it was TAKEN OUT (whether LOCKED or not).");
        TabulaWorks x = new TabulaWorks();
        Check.tell(x, "B10", "=CHOICE(A1,S1!A1,1q)");
        for (int place = 0; place < 120; place++) {
            x.lock(place / 60, place % 60, true);
        }
        check.is(x.breaks(0, true, 0), 1);
        check.is(x.breaks(0, false, 0), 1);
        check.is(x.breaks(1, true, 0), 0);
        check.fails(x, Check.STATE, () -> x.take(0, true, 0));
        check.is(x.ofSheet(0, 4) + x.ofSheet(1, 4), 120);
    }

    private static void sound() {
        check.says("Returns whether no CELL is STALE, no FORMULA has an OPERAND that is GONE, and from none one comes back to itself.");
        TabulaWorks x = new TabulaWorks();
        check.is(x.isSound(), true);
        // Errors alone leave it sound, also corners on different sheets.
        Check.tell(x, "B1", "=BY(1q,0q)");
        Check.tell(x, "B2", "=SUM(N0)");
        Check.tell(x, "B3", "=SUM(A1:A2)");
        x.move(0, 0, 1, 0);
        check.is(Check.error(x, "B3"), 3);
        check.is(x.isSound(), true);
        x.hold(true);
        check.is(x.isSound(), true);
        x.number(1, 59, 0);
        check.is(x.isSound(), false);
        x.reckon();
        check.is(x.isSound(), true);
        x.number(0, 0, 0);
        check.is(x.isSound(), false);
        x.undo();
        check.is(x.isSound(), true);
        x.hold(false);
        Check.tellGone(x, "A5", "=CHOICE(1q,1q,A1)");
        check.is(Check.error(x, "A5"), 0);
        check.is(x.isSound(), false);
        x.clear(0, Check.at("A5"));
        check.is(x.isSound(), true);
        Check.tell(x, 1, "F10", "=CHOICE(1q,1q,S1!F10)");
        check.is(x.isSound(), false);
        x.undo();
        check.is(x.isSound(), true);
    }

    private static void digestOrder() {
        check.says("for each v in this order: many() of 0 to 7; NAME by NAME ofName() of 0 to 4; SHEET by SHEET ofSheet() of 0 to 7, "
            + "then CELL by CELL of those that hold something: its number, ofCell() of 0 to 9, 64 times value() (cut to a whole "
            + "number), how many signs words() has, how many text() has; isSound() (1 or 0).");
        // Each of them makes it another one.
        TabulaWorks x = new TabulaWorks();
        long[] seen = new long[12];
        seen[0] = x.digest();
        x.number(0, 0, 4);
        seen[1] = x.digest();
        x.move(0, 0, 0, 1);
        seen[2] = x.digest();
        x.number(0, 1, 5);
        seen[3] = x.digest();
        x.digits(0, 1, 0);
        seen[4] = x.digest();
        x.name(2, 1, 59, 58);
        seen[5] = x.digest();
        x.hide(1, 9, true);
        seen[6] = x.digest();
        x.ring();
        seen[7] = x.digest();
        x.hold(true);
        seen[8] = x.digest();
        x.formula(0, 1, 0, 1, -500, 0);
        seen[9] = x.digest();
        x.reckon();
        seen[10] = x.digest();
        x.lock(0, 59, true);
        seen[11] = x.digest();
        for (int k = 0; k < 12; k++) {
            for (int n = 0; n < k; n++) {
                check.is(seen[k] == seen[n], false);
            }
        }
        check.is(new TabulaWorks().digest(), seen[0]);
        check.is(seen[11], digestOf(x));
    }

    private static void digestWraps() {
        check.says("A number d starts with 58323; then d becomes d * 31 + v, which wraps around as a 64-bit integer");
        TabulaWorks x = new TabulaWorks();
        check.is(x.digest(), digestOf(x));
        x = Check.sample();
        check.is(x.digest(), digestOf(x));
        x.hold(true);
        x.ring();
        x.undo();
        // Values below 0 are cut towards 0.
        Check.put(x, "F1", -100000);
        Check.tell(x, "F2", "=BY(-4q,12q)");
        Check.tell(x, "F3", "=BY(-4q,128q)");
        Check.tell(x, "F4", "=BY(-4q,A1)");
        check.is(x.digest(), digestOf(x));
        x.hold(false);
        check.is(x.digest(), digestOf(x));
        Check.tellGone(x, "A5", "=CHOICE(1q,1q,A1)");
        check.is(x.digest(), digestOf(x));
        x.number(0, 0, 1);
        x.fill(0, 0, 59);
        x.copy(0, 0, 1, 0);
        x.fill(1, 0, 53);
        check.is(x.digest(), digestOf(x));
    }

    /** The same with whole numbers that do not wrap around, cut to 64 bits at the end. */
    private static long digestOf(TabulaWorks x) {
        BigInteger d = BigInteger.valueOf(58323);
        for (int what = 0; what <= 7; what++) {
            d = then(d, x.many(what));
        }
        for (int k = 0; k < 15; k++) {
            d = then(d, x.ofName(k / 5, k % 5));
        }
        for (int sheet = 0; sheet < 2; sheet++) {
            for (int what = 0; what <= 7; what++) {
                d = then(d, x.ofSheet(sheet, what));
            }
            for (int cell = 0; cell < 60; cell++) {
                if (x.ofCell(sheet, cell, 0) == 0) {
                    continue;
                }
                d = then(d, cell);
                for (int what = 0; what <= 9; what++) {
                    d = then(d, x.ofCell(sheet, cell, what));
                }
                d = then(d, (long) (64.0 * x.value(sheet, cell)));
                d = then(d, x.words(sheet, cell).length());
                d = then(d, x.text(sheet, cell).length());
            }
        }
        return then(d, x.isSound() ? 1 : 0).longValue();
    }

    private static BigInteger then(BigInteger d, long v) {
        return d.multiply(BigInteger.valueOf(31)).add(BigInteger.valueOf(v));
    }
}
