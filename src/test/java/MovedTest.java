/** Promises 7 to 10: cells moved, rows and columns put in and taken out, rows sorted. */
public final class MovedTest {
    private static final Check check = new Check("MovedTest");

    private MovedTest() {
    }

    public static void main(String[] args) {
        moves();
        movesOfCorners();
        movesOfNames();
        wrongMoves();
        puts();
        putsOfColumns();
        putsOfLastOnes();
        wrongPuts();
        takes();
        takesOfCorners();
        takesOfNames();
        wrongTakes();
        sorts();
        sortsOfReferences();
        sortsWhenHeld();
        wrongSorts();
        check.end();
    }

    private static int move(TabulaWorks x, String from, String to) {
        return x.move(0, Check.at(from), 0, Check.at(to));
    }

    private static void moves() {
        check.promise(7);
        TabulaWorks x = new TabulaWorks();
        Check.put(x, "A1", 4);
        Check.tell(x, "B1", "=PLUS(A1,$A$1)");
        Check.tell(x, 1, "C3", "=CHOICE(A1,S1!A1,$B2)");
        Check.tell(x, "B2", "=LESS(B2,A1)");
        check.is(move(x, "A1", "B2"), 3);
        check.is(Check.words(x, "B1"), "=PLUS(B2,$B$2)");
        check.is(x.words(1, Check.at("C3")), "=CHOICE(S0!B2,A1,?)");
        check.is(Check.words(x, "B2") + Check.words(x, "A1"), "4q");
        check.is(Check.value(x, "B1"), 2.0);
        // The formula itself goes just as it is, but for what names it or where it comes to.
        Check.tell(x, "E5", "=CHOICE(E5,F6,E4)");
        check.is(move(x, "E5", "F6"), 1);
        check.is(Check.words(x, "F6"), "=CHOICE(F6,?,E4)");
        check.is(x.move(0, Check.at("F6"), 1, Check.at("A1")), 1);
        check.is(x.words(1, 0), "=CHOICE(A1,?,S0!E4)");
        check.is(x.words(1, Check.at("C3")), "=CHOICE(S0!B2,?,?)");
        // What is empty can be moved, too.
        check.is(move(x, "A10", "B2"), 0);
        check.is(Check.words(x, "B1") + Check.words(x, "B2"), "=PLUS(?,?)");
        check.is(move(x, "B1", "B1"), 0);
        check.is(Check.words(x, "B1"), "=PLUS(?,?)");
        check.is(x.many(2), 8);
    }

    private static void movesOfCorners() {
        check.promise(7);
        TabulaWorks x = new TabulaWorks();
        Check.put(x, "A1", 4);
        Check.put(x, "A2", 8);
        Check.tell(x, "F1", "=SUM(A1:A2)");
        Check.tell(x, "F2", "=SUM(A1:A1)");
        check.is(move(x, "A1", "B3"), 3);
        check.is(Check.words(x, "F1") + Check.words(x, "F2"), "=SUM(B3:A2)=SUM(B3:B3)");
        check.is(Check.value(x, "F1"), 3.0);
        // Corners on different sheets: lost, but not gone, as long as they are.
        check.is(x.move(0, Check.at("B3"), 1, 0), 3);
        check.is(Check.words(x, "F1") + Check.words(x, "F2"), "=SUM(S1!A1:A2)=SUM(S1!A1:S1!A1)");
        check.is(Check.error(x, "F1"), 3);
        check.is(Check.value(x, "F2"), 1.0);
        check.is(Check.ask(x, "F1", 6), 0);
        check.is(x.many(1), 0);
        check.is(move(x, "A2", "C2"), 1);
        check.is(x.move(0, Check.at("C2"), 1, 7), 1);
        check.is(Check.words(x, "F1"), "=SUM(S1!A1:S1!B2)");
        check.is(Check.value(x, "F1"), 3.0);
        check.is(x.move(1, 7, 1, 0), 1);
        check.is(Check.words(x, "F1") + Check.words(x, "F2"), "=SUM(?:S1!A1)=SUM(?:?)");
        check.is(Check.error(x, "F1"), 3);
        check.is(x.many(1), 3);
    }

    private static String named(TabulaWorks x, int name) {
        return Check.named(x, name);
    }

    private static void movesOfNames() {
        check.promise(7);
        TabulaWorks x = new TabulaWorks();
        x.name(0, 0, 0, 13);
        x.name(1, 0, 0, 0);
        x.name(2, 0, 13, 0);
        check.is(move(x, "A1", "C1"), 0);
        check.is(named(x, 0) + ", " + named(x, 1) + ", " + named(x, 2), "0 2 13, 0 2 2, 0 13 2");
        check.is(x.move(0, 2, 1, 5), 0);
        check.is(named(x, 0) + ", " + named(x, 1) + ", " + named(x, 2), "-1 -1 -1, 1 5 5, -1 -1 -1");
        x.undo();
        check.is(move(x, "A5", "B3"), 0);
        check.is(named(x, 0) + ", " + named(x, 1) + ", " + named(x, 2), "-1 -1 -1, 0 2 2, -1 -1 -1");
        x.undo();
        check.is(move(x, "B3", "C1"), 0);
        check.is(named(x, 0) + ", " + named(x, 1), "-1 -1 -1, -1 -1 -1");
    }

    private static void wrongMoves() {
        check.promise(7);
        TabulaWorks x = new TabulaWorks();
        Check.put(x, "A1", 4);
        x.lock(0, 0, true);
        check.fails(x, Check.STATE, () -> x.move(0, 0, 0, 1));
        check.fails(x, Check.STATE, () -> x.move(0, 1, 0, 0));
        check.fails(x, Check.STATE, () -> x.move(0, 0, 0, 0));
        check.fails(x, Check.INDEX, () -> x.move(0, 0, 0, 60));
        check.fails(x, Check.INDEX, () -> x.move(0, 0, 2, 0));
        check.fails(x, Check.INDEX, () -> x.move(2, 0, 0, 0));
        check.fails(x, Check.INDEX, () -> x.move(0, -1, 0, 0));
    }

    private static void puts() {
        check.promise(8);
        TabulaWorks x = new TabulaWorks();
        Check.put(x, "A1", 4);
        Check.put(x, "A3", 8);
        Check.tell(x, "B4", "=CHOICE(A1,$A$3,S1!A3)");
        Check.tell(x, 1, "A9", "=SUM(A3:$A$1)");
        x.name(0, 0, Check.at("F9"), Check.at("A2"));
        x.hide(0, 2, true);
        x.digits(0, Check.at("A3"), 0);
        x.lock(0, Check.at("A3"), true);
        check.is(x.put(0, true, 2), 2);
        check.is(Check.words(x, "A1") + Check.words(x, "A3") + Check.words(x, "A4"), "4q8q");
        check.is(Check.words(x, "B5"), "=CHOICE(A1,$A$4,S1!A3)");
        check.is(x.words(1, Check.at("A9")), "=SUM(S0!A4:S0!$A$1)");
        check.is(named(x, 0), "0 59 6");
        check.is(x.ofSheet(0, 5), 8);
        check.is(Check.ask(x, "A4", 3) + 10 * Check.ask(x, "A3", 3), 20);
        check.is(Check.ask(x, "A4", 4) + 10 * Check.ask(x, "A3", 4), 1);
        check.is(x.value(1, Check.at("A9")), 3.0);
        x.undo();
        check.is(x.ofSheet(0, 5), 4);
        check.is(Check.words(x, "B4"), "=CHOICE(A1,$A$3,S1!A3)");
    }

    private static void putsOfColumns() {
        check.promise(8);
        TabulaWorks x = new TabulaWorks();
        Check.put(x, "B1", 4);
        Check.tell(x, "C1", "=PLUS(B1,A1)");
        Check.tell(x, "C2", "=SUM(B1:D4)");
        x.hide(0, 0, true);
        x.digits(0, Check.at("F2"), 1);
        x.digits(0, Check.at("E2"), 0);
        x.lock(0, Check.at("B3"), true);
        check.is(x.put(0, false, 1), 3);
        check.is(Check.words(x, "D1") + Check.words(x, "D2"), "=PLUS(C1,A1)=SUM(C1:E4)");
        check.is(x.ofSheet(0, 5), 1);
        check.is(Check.ask(x, "F2", 3), 0);
        check.is(Check.ask(x, "E2", 3), 2);
        check.is(Check.ask(x, "C3", 4) + 10 * Check.ask(x, "B3", 4), 1);
        check.is(x.put(0, false, 0), 3);
        check.is(Check.words(x, "E1"), "=PLUS(D1,B1)");
        check.is(x.put(0, false, 0), 3);
        check.fails(x, Check.STATE, () -> x.put(0, false, 0));
        check.is(x.put(0, true, 9), 0);
        check.is(x.put(1, false, 5), 0);
    }

    private static void putsOfLastOnes() {
        check.promise(8);
        TabulaWorks x = new TabulaWorks();
        Check.tell(x, "A1", "=CHOICE(B10,$C$10,D9)");
        Check.tell(x, "A2", "=FIND(B10:C1,E10)");
        Check.tell(x, "A3", "=SUM(B10:C10)");
        Check.tell(x, "A4", "=SUM(B10:C9)");
        Check.tell(x, "E4", "=SUM(F10:F8)");
        x.copy(0, Check.at("E4"), 0, Check.at("E5"));
        x.name(0, 0, 59, 0);
        x.name(1, 0, 59, 59);
        x.hide(0, 9, true);
        x.hide(0, 8, true);
        x.lock(0, 59, true);
        check.is(x.put(0, true, 5), 0);
        check.is(Check.words(x, "A1"), "=CHOICE(?,?,D10)");
        check.is(Check.words(x, "A2"), "=FIND(B10:C1,?)");
        check.is(Check.words(x, "A3"), "=SUM(B10:C10)");
        check.is(Check.words(x, "A4"), "=SUM(B10:C10)");
        // A corner whose other one is gone is a reference like others.
        check.is(Check.words(x, "E5"), "=SUM(?:F10)");
        check.is(x.put(0, true, 9), 0);
        check.is(Check.words(x, "E5"), "=SUM(?:?)");
        check.is(Check.words(x, "A1"), "=CHOICE(?,?,?)");
        check.is(Check.words(x, "A4"), "=SUM(B10:C10)");
        check.is(named(x, 0) + ", " + named(x, 1), "0 59 0, 0 59 59");
        check.is(x.ofSheet(0, 5), 0);
        check.is(x.ofSheet(0, 4), 0);
        // So is a corner whose other one is on the other sheet.
        TabulaWorks y = new TabulaWorks();
        Check.tell(y, "A1", "=SUM(F3:E3)");
        y.move(0, Check.at("E3"), 1, 0);
        check.is(Check.words(y, "A1"), "=SUM(F3:S1!A1)");
        y.put(0, false, 3);
        check.is(y.words(0, 0), "=SUM(?:S1!A1)");
        check.is(y.many(1), 1);
    }

    private static void wrongPuts() {
        check.promise(8);
        TabulaWorks x = new TabulaWorks();
        Check.put(x, "F1", 4);
        check.fails(x, Check.STATE, () -> x.put(0, false, 3));
        check.fails(x, Check.INDEX, () -> x.put(0, false, 6));
        check.fails(x, Check.INDEX, () -> x.put(0, true, 10));
        check.fails(x, Check.INDEX, () -> x.put(0, true, -1));
        check.fails(x, Check.INDEX, () -> x.put(2, true, 0));
        check.is(x.put(0, true, 0), 1);
        Check.put(x, "A10", 4);
        check.fails(x, Check.STATE, () -> x.put(0, true, 9));
        check.is(x.put(1, true, 9), 0);
        x.clear(0, Check.at("A10"));
        x.lock(0, 0, true);
        check.is(x.put(0, true, 0), 1);
        check.is(x.ofCell(0, 6, 4), 1);
    }

    private static void takes() {
        check.promise(9);
        TabulaWorks x = new TabulaWorks();
        Check.put(x, "A1", 4);
        Check.put(x, "A2", 8);
        Check.tell(x, "A3", "=PLUS(A2,A2)");
        Check.tell(x, "B1", "=CHOICE(A2,$A$3,A1)");
        Check.tell(x, "B2", "=PLUS(A2,A2)");
        Check.tell(x, 1, "B2", "=PLUS(A2,S1!A2)");
        x.hide(0, 1, true);
        x.hide(0, 9, true);
        check.is(x.take(0, true, 1), 4);
        check.is(Check.words(x, "A2"), "=PLUS(?,?)");
        check.is(Check.words(x, "B1"), "=CHOICE(?,$A$2,A1)");
        check.is(x.words(1, 7), "=PLUS(?,A2)");
        check.is(Check.error(x, "B1"), 3);
        check.is(x.ofSheet(0, 5), 256);
        check.is(x.many(0), 3);
        // What is gone already is not gone by that.
        check.is(x.take(0, true, 5), 0);
        check.is(x.take(0, false, 0), 2);
        check.is(Check.words(x, "A1"), "=CHOICE(?,?,?)");
        check.is(x.many(1), 4);
        TabulaWorks y = new TabulaWorks();
        y.digits(0, 59, 0);
        y.lock(0, 59, true);
        y.digits(0, 53, 1);
        check.is(y.take(0, true, 0), 0);
        check.is(y.ofCell(0, 59, 3) + 10 * y.ofCell(0, 59, 4), 2);
        check.is(y.ofCell(0, 53, 3) + 10 * y.ofCell(0, 53, 4), 10);
        check.is(y.ofCell(0, 47, 3), 1);
        check.is(y.take(0, false, 1), 0);
        check.is(y.ofCell(0, 52, 3) + 10 * y.ofCell(0, 52, 4), 10);
        check.is(y.ofCell(0, 53, 3) + 10 * y.ofCell(0, 53, 4), 2);
    }

    private static void takesOfCorners() {
        check.promise(9);
        TabulaWorks x = new TabulaWorks();
        Check.tell(x, 1, "A1", "=SUM(A2:B5)");
        Check.tell(x, 1, "A2", "=SUM($B$5:A3)");
        Check.tell(x, 1, "A3", "=SUM(A3:A3)");
        Check.tell(x, 1, "A4", "=SUM(D9:C3)");
        check.is(x.take(0, true, 2), 2);
        check.is(x.words(1, 0), "=SUM(S0!A2:S0!B4)");
        check.is(x.words(1, 6), "=SUM(S0!$B$4:S0!A3)");
        check.is(x.words(1, 12), "=SUM(?:?)");
        check.is(x.words(1, 18), "=SUM(S0!D8:S0!C3)");
        check.is(x.take(0, true, 3), 0);
        check.is(x.words(1, 0), "=SUM(S0!A2:S0!B3)");
        check.is(x.words(1, 6), "=SUM(S0!$B$3:S0!A3)");
        check.is(x.take(0, false, 0), 0);
        check.is(x.words(1, 0), "=SUM(S0!A2:S0!A3)");
        check.is(x.words(1, 6), "=SUM(S0!$A$3:S0!A3)");
        check.is(x.take(0, true, 2), 2);
        check.is(x.words(1, 0), "=SUM(S0!A2:S0!A2)");
        check.is(x.words(1, 18), "=SUM(S0!C6:S0!B3)");
        check.is(x.words(1, 6), "=SUM(?:?)");
    }

    private static void takesOfNames() {
        check.promise(9);
        TabulaWorks x = new TabulaWorks();
        x.name(0, 0, Check.at("A3"), Check.at("B5"));
        x.name(1, 0, Check.at("C5"), Check.at("A5"));
        x.name(2, 1, Check.at("C5"), Check.at("A6"));
        Check.tell(x, "F1", "=SUM(N1)");
        check.is(x.take(0, true, 4), 0);
        check.is(named(x, 0) + ", " + named(x, 1) + ", " + named(x, 2), "0 12 19, -1 -1 -1, 1 26 30");
        check.is(Check.error(x, "F1"), 3);
        check.is(x.take(0, true, 2), 0);
        check.is(named(x, 0), "0 12 13");
        check.is(x.take(0, false, 1), 0);
        check.is(named(x, 0), "0 12 12");
        check.is(x.take(0, false, 1), 0);
        check.is(named(x, 0), "0 12 12");
        check.is(x.take(0, false, 0), 0);
        check.is(named(x, 0), "-1 -1 -1");
    }

    private static void wrongTakes() {
        check.promise(9);
        TabulaWorks x = new TabulaWorks();
        x.lock(0, Check.at("C4"), true);
        check.fails(x, Check.STATE, () -> x.take(0, true, 3));
        check.fails(x, Check.STATE, () -> x.take(0, false, 2));
        check.fails(x, Check.INDEX, () -> x.take(0, false, 6));
        check.fails(x, Check.INDEX, () -> x.take(0, true, 10));
        check.fails(x, Check.INDEX, () -> x.take(0, true, -1));
        check.fails(x, Check.INDEX, () -> x.take(-1, true, 3));
        check.is(x.take(0, true, 2), 0);
        check.is(Check.ask(x, "C3", 4), 1);
        check.is(x.take(1, true, 2), 0);
    }

    private static String column(TabulaWorks x, int column, int rows) {
        StringBuilder all = new StringBuilder();
        for (int row = 0; row < rows; row++) {
            all.append(x.words(0, row * 6 + column)).append(' ');
        }
        return all.toString();
    }

    private static TabulaWorks mixed() {
        TabulaWorks x = new TabulaWorks();
        Check.tell(x, "A1", "=PLUS(N0,1q)");
        Check.put(x, "A2", 8);
        Check.tell(x, "A4", "=BY(1q,0q)");
        Check.put(x, "A5", -4);
        Check.put(x, "A6", 8);
        for (int row = 0; row < 6; row++) {
            x.number(0, row * 6 + 1, row);
        }
        return x;
    }

    private static void sorts() {
        check.promise(10);
        TabulaWorks x = mixed();
        check.is(x.sort(0, 0, 5, 0, false), 4);
        check.is(column(x, 0, 6), "-4q 8q 8q =BY(1q,0q) =PLUS(N0,1q)  ");
        check.is(column(x, 1, 6), "4q 1q 5q 3q 0q 2q ");
        x = mixed();
        check.is(x.sort(0, 0, 5, 0, true), 5);
        check.is(column(x, 1, 6), "1q 5q 4q 3q 0q 2q ");
        check.is(x.sort(0, 0, 5, 0, true), 0);
        check.is(x.many(2), 8);
        x = mixed();
        check.is(x.sort(0, 1, 3, 0, false), 2);
        check.is(column(x, 1, 6), "0q 1q 3q 2q 4q 5q ");
        check.is(x.sort(0, 9, 9, 5, false), 0);
        // The greatest error by its number stays ahead of nothing.
        TabulaWorks y = new TabulaWorks();
        Check.put(y, "B9", 100000);
        Check.tell(y, "B8", "=TIMES(B9,B9)");
        Check.tell(y, "A4", "=TIMES(B8,B8)");
        Check.tell(y, "A3", "=FIND(E1:E2,1q)");
        check.is(y.sort(0, 0, 3, 0, true), 4);
        check.is(Check.error(y, "A1") + 10 * Check.error(y, "A2"), 54);
    }

    private static void sortsOfReferences() {
        check.promise(10);
        TabulaWorks x = new TabulaWorks();
        Check.put(x, "A1", 8);
        Check.put(x, "A2", 4);
        Check.tell(x, "B1", "=CHOICE(A1,A$1,$A2)");
        Check.tell(x, "C1", "=SUM($A1:B2)");
        Check.tell(x, "D1", "=PLUS(S1!A1,C3)");
        Check.tell(x, "E5", "=PLUS(A1,A2)");
        x.name(0, 0, 0, 1);
        x.hide(0, 0, true);
        x.digits(0, 0, 0);
        check.is(x.sort(0, 0, 1, 0, false), 2);
        check.is(Check.words(x, "B2"), "=CHOICE(A2,A$1,$A2)");
        check.is(Check.words(x, "C2"), "=SUM($A2:B2)");
        check.is(Check.words(x, "D2"), "=PLUS(S1!A1,C3)");
        check.is(Check.words(x, "E5"), "=PLUS(A1,A2)");
        check.is(x.ofSheet(0, 5), 1);
        check.is(Check.ask(x, "A1", 3), 0);
        check.is(x.ofName(0, 1), 0);
        check.is(Check.value(x, "B2"), 1.0);
        TabulaWorks y = new TabulaWorks();
        Check.put(y, "A7", 8);
        Check.put(y, "A8", 4);
        Check.tell(y, "B7", "=PLUS(A7,$A7)");
        Check.tell(y, "F8", "=MEAN(E8:A$8)");
        check.is(y.sort(0, 6, 7, 0, false), 2);
        check.is(Check.words(y, "B8"), "=PLUS(A8,$A8)");
        check.is(Check.words(y, "F7"), "=MEAN(E7:A$8)");
    }

    private static void sortsWhenHeld() {
        check.promise(10);
        TabulaWorks x = new TabulaWorks();
        Check.put(x, "A1", 8);
        Check.put(x, "A2", 4);
        x.hold(true);
        Check.put(x, "A1", 0);
        Check.put(x, "A3", -40);
        check.is(x.sort(0, 0, 2, 0, false), 2);
        check.is(column(x, 0, 3), "4q 0q -40q ");
        check.is(Check.value(x, "A1"), 2.0);
        check.is(Check.value(x, "A2"), 1.0);
        x.hold(false);
        check.is(Check.value(x, "A3"), -10.0);
    }

    private static void wrongSorts() {
        check.promise(10);
        TabulaWorks x = new TabulaWorks();
        x.lock(0, Check.at("F3"), true);
        check.fails(x, Check.STATE, () -> x.sort(0, 2, 2, 0, false));
        check.fails(x, Check.STATE, () -> x.sort(0, 0, 9, 0, false));
        check.fails(x, Check.ARGUMENT, () -> x.sort(0, 3, 2, 0, false));
        check.fails(x, Check.INDEX, () -> x.sort(0, 3, -1, 0, false));
        check.fails(x, Check.INDEX, () -> x.sort(0, 10, 9, 0, false));
        check.fails(x, Check.INDEX, () -> x.sort(0, 3, 2, 6, false));
        check.fails(x, Check.INDEX, () -> x.sort(2, 0, 2, 0, false));
        check.is(x.sort(0, 0, 1, 0, false), 0);
        check.is(x.sort(0, 3, 9, 0, false), 0);
    }
}
