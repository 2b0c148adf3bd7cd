import java.lang.management.ManagementFactory;

/** Section 5 of the document at its edges: locks, what is undone and done again, the bell, and calls that throw. */
public final class KeptEdgesTest {
    private static final Check check = new Check("KeptEdgesTest");
    private static final String REFUSED = "a call that would tell, clear, COPY to, FILL, MOVE from or to, SORT or take out one "
        + "of them is refused whole (also if nothing in it would be another one then).";
    private static final String KEEPS = "Each call of the first heading but hold(), reckon(), undo(), redo() and ring() that was "
        + "let keeps all as it was ahead of it (what CELLS hold, NAMES, HIDDEN ROWS, digits, locks)";

    private KeptEdgesTest() {
    }

    public static void main(String[] args) {
        toldLocked();
        copiedToLocked();
        filledLocked();
        movedLocked();
        sortedLocked();
        takenLocked();
        locksLet();
        putIsLet();
        keepsEach();
        keepsNoOthers();
        keepsWhatChangesNothing();
        latestEight();
        nothingKept();
        undoRedo();
        forgets();
        forgetsNot();
        valuesFollow();
        valuesFollowWhenHeld();
        digits();
        bell();
        asksChangeNothing();
        room();
        check.end();
    }

    // ---- locks

    private static void toldLocked() {
        check.says(REFUSED);
        for (int cell = 0; cell < 60; cell += 59) {
            TabulaWorks x = new TabulaWorks();
            int at = cell;
            x.lock(0, at, true);
            // It is EMPTY, and a number that it holds already would be no other one.
            check.fails(x, Check.STATE, () -> x.clear(0, at));
            check.fails(x, Check.STATE, () -> x.number(0, at, 0));
            check.fails(x, Check.STATE, () -> x.formula(0, at, 0, 1, 1, 0));
            check.is(x.clear(1, at), false);
            check.is(x.number(1, at, 0) + x.formula(1, at, 0, 1, 1, 0), 0);
            check.is(x.number(0, 30, 0), 0);
            x.lock(0, at, false);
            check.is(x.number(0, at, 4), 0);
            x.lock(0, at, true);
            check.fails(x, Check.STATE, () -> x.number(0, at, 4));
            x.hold(true);
            check.fails(x, Check.STATE, () -> x.number(0, at, 5));
        }
    }

    private static void copiedToLocked() {
        check.says(REFUSED);
        TabulaWorks x = Check.sample();
        x.lock(0, 0, true);
        check.fails(x, Check.STATE, () -> x.copy(0, 1, 0, 0));
        check.fails(x, Check.STATE, () -> x.copy(1, 0, 0, 0));
        check.fails(x, Check.STATE, () -> x.copy(0, 0, 0, 0));
        check.fails(x, Check.STATE, () -> x.copy(0, 0, 1, 59));
        // From it is let.
        check.is(x.copy(0, 0, 1, 0), 0);
        check.is(x.words(1, 0), "4q");
    }

    private static void filledLocked() {
        check.says(REFUSED);
        for (int locked = 0; locked < 60; locked++) {
            TabulaWorks x = new TabulaWorks();
            int at = locked;
            x.number(0, 14, 4);
            x.lock(0, at, true);
            // C3 to D8: 14 and 15, 20 and 21, and so on to 44 and 45.
            boolean isIn = at % 6 >= 2 && at % 6 <= 3 && at / 6 >= 2 && at / 6 <= 7;
            if (isIn && at != 14) {
                check.fails(x, Check.STATE, () -> x.fill(0, 14, 45));
                check.is(x.ofSheet(0, 0), 1);
            } else {
                check.is(x.fill(0, 14, 45), 11);
            }
            check.is(x.fill(0, at, at), 0);
        }
        TabulaWorks x = new TabulaWorks();
        x.lock(1, 14, true);
        check.is(x.fill(0, 14, 0), 8);
        check.fails(x, Check.STATE, () -> x.fill(1, 0, 14));
        check.is(x.fill(1, 14, 0), 8);
    }

    private static void movedLocked() {
        check.says(REFUSED);
        TabulaWorks x = Check.sample();
        x.lock(0, 0, true);
        check.fails(x, Check.STATE, () -> x.move(0, 0, 0, 1));
        check.fails(x, Check.STATE, () -> x.move(0, 1, 0, 0));
        check.fails(x, Check.STATE, () -> x.move(0, 0, 0, 0));
        check.fails(x, Check.STATE, () -> x.move(0, 0, 1, 0));
        check.fails(x, Check.STATE, () -> x.move(1, 0, 0, 0));
        check.fails(x, Check.STATE, () -> x.move(0, 5, 0, 0));
        check.fails(x, Check.STATE, () -> x.move(0, 0, 1, 59));
        // A locked formula holds another reference then, but that is not told to it.
        x.lock(0, 1, true);
        x.lock(0, 0, false);
        check.is(x.move(0, 0, 0, 4) > 0, true);
        check.is(x.words(0, 1), "=SUM(E1:A2)");
    }

    private static void sortedLocked() {
        check.says(REFUSED);
        for (int locked = 0; locked < 60; locked++) {
            TabulaWorks x = new TabulaWorks();
            int at = locked;
            x.lock(0, at, true);
            boolean isIn = at / 6 >= 3 && at / 6 <= 5;
            if (isIn) {
                check.fails(x, Check.STATE, () -> x.sort(0, 3, 5, 0, false));
                check.fails(x, Check.STATE, () -> x.sort(0, at / 6, at / 6, 0, true));
            } else {
                check.is(x.sort(0, 3, 5, 0, false), 0);
            }
            check.fails(x, Check.STATE, () -> x.sort(0, 0, 9, 5, false));
            check.is(x.sort(1, 0, 9, 5, false), 0);
        }
    }

    private static void takenLocked() {
        check.says(REFUSED);
        for (int locked = 0; locked < 60; locked++) {
            TabulaWorks x = new TabulaWorks();
            x.lock(0, locked, true);
            for (int row = 0; row < 10; row++) {
                int at = row;
                if (locked / 6 == row) {
                    check.fails(x, Check.STATE, () -> x.take(0, true, at));
                } else {
                    check.is(x.take(0, true, at), 0);
                    x.undo();
                }
            }
            for (int column = 0; column < 6; column++) {
                int at = column;
                if (locked % 6 == column) {
                    check.fails(x, Check.STATE, () -> x.take(0, false, at));
                } else {
                    check.is(x.take(0, false, at), 0);
                    x.undo();
                }
            }
            check.is(x.take(1, true, locked / 6), 0);
        }
    }

    /** What changes no more than how cells are shown, or what names name, is let. */
    private static void locksLet() {
        check.says("LOCKED CELLS: what they hold can not be changed");
        TabulaWorks x = Check.sample();
        for (int cell = 0; cell < 60; cell++) {
            x.lock(0, cell, true);
        }
        check.is(x.filter(0, 0, 0), 8);
        check.is(x.hide(0, 0, true), false);
        check.is(x.name(0, 0, 0, 59), 1);
        check.is(x.digits(0, 0, 0), 2);
        check.is(x.lock(0, 0, true), true);
        check.is(x.hold(true), false);
        check.is(x.reckon(), 0);
        check.is(x.ofSheet(0, 4), 60);
        // To undo brings locks back, and is not refused by them.
        check.is(x.undo() + x.redo(), 7);
        check.is(x.lock(0, 59, false), true);
        check.is(x.number(0, 59, 4), 0);
    }

    private static void putIsLet() {
        check.says("To PUT IN a ROW or COLUMN is let.");
        for (int isRow = 0; isRow < 2; isRow++) {
            TabulaWorks x = new TabulaWorks();
            x.number(0, 0, 4);
            for (int cell = 0; cell < 60; cell++) {
                x.lock(0, cell, true);
            }
            check.is(x.put(0, isRow == 1, 0), 1);
            check.is(x.words(0, isRow == 1 ? 6 : 1), "4q");
            check.is(x.ofSheet(0, 4), isRow == 1 ? 54 : 50);
        }
    }

    // ---- done and undone

    private static void keepsEach() {
        check.says(KEEPS);
        for (int nth = 0; nth < Check.CHANGES; nth++) {
            TabulaWorks x = new TabulaWorks();
            check.is(x.many(2), 0);
            x.number(0, 0, 4);
            x.number(0, 6, 8);
            Check.tell(x, "B2", "=SUM(A1:A2)");
            String before = Check.kept(x);
            Check.change(x, nth);
            check.is(x.many(2), 4);
            String after = Check.kept(x);
            check.is(after.equals(before), false);
            check.is(x.undo(), 3);
            check.is(Check.kept(x), before);
            check.is(x.redo(), 0);
            check.is(Check.kept(x), after);
            check.is(x.many(2) * 10 + x.many(3), 40);
            // And the other way round, with all of it held.
            x.hold(true);
            check.is(x.undo(), 3);
            x.hold(false);
            check.is(Check.kept(x), before);
        }
    }

    private static void keepsNoOthers() {
        check.says(KEEPS);
        TabulaWorks x = new TabulaWorks();
        x.number(0, 0, 4);
        x.hold(true);
        x.number(0, 0, 8);
        x.undo();
        x.hold(false);
        x.hold(true);
        x.reckon();
        x.ring();
        check.is(x.many(2) * 10 + x.many(3), 11);
        check.fails(x, Check.INDEX, () -> x.number(0, 60, 4));
        check.fails(x, Check.ARGUMENT, () -> x.digits(0, 0, 3));
        x.redo();
        x.lock(0, 0, true);
        check.is(x.many(2), 3);
        check.fails(x, Check.STATE, () -> x.number(0, 0, 12));
        check.is(x.many(2), 3);
        check.is(x.undo(), 2);
        check.is(x.words(0, 0) + x.ofCell(0, 0, 4), "8q0");
        check.is(x.undo(), 1);
        check.is(x.words(0, 0), "4q");
    }

    private static void keepsWhatChangesNothing() {
        check.says(KEEPS);
        TabulaWorks x = new TabulaWorks();
        x.clear(0, 0);
        check.is(x.many(2), 1);
        x.copy(0, 0, 0, 0);
        check.is(x.many(2), 2);
        x.fill(0, 0, 0);
        check.is(x.many(2), 3);
        x.move(0, 0, 0, 0);
        check.is(x.many(2), 4);
        x.put(0, true, 9);
        check.is(x.many(2), 5);
        x.take(1, false, 5);
        check.is(x.many(2), 6);
        x.sort(0, 9, 9, 0, true);
        check.is(x.many(2), 7);
        TabulaWorks y = new TabulaWorks();
        y.hide(0, 0, false);
        check.is(y.many(2), 1);
        y.digits(0, 0, 2);
        check.is(y.many(2), 2);
        y.lock(0, 0, false);
        check.is(y.many(2), 3);
        y.name(0, 0, 0, 0);
        y.name(0, 0, 0, 0);
        check.is(y.many(2), 5);
        y.filter(0, 0, 0);
        y.filter(0, 0, 0);
        check.is(y.many(2), 7);
        check.is(y.undo() + y.undo() + y.undo(), 6 + 5 + 4);
    }

    private static void latestEight() {
        check.says("the latest 8 of them.");
        TabulaWorks x = new TabulaWorks();
        for (int told = 1; told <= 8; told++) {
            x.number(0, 0, told);
            check.is(x.many(2), told);
        }
        for (int told = 9; told <= 30; told++) {
            x.number(0, 0, told);
            check.is(x.many(2), 8);
        }
        for (int left = 7; left >= 0; left--) {
            check.is(x.undo(), left);
            check.is(x.words(0, 0), (22 + left) + "q");
            check.is(x.many(3), 8 - left);
        }
        check.fails(x, Check.STATE, () -> x.undo());
        check.is(x.words(0, 0), "22q");
        // With just eight the first state of all comes back.
        TabulaWorks y = new TabulaWorks();
        for (int told = 1; told <= 8; told++) {
            y.number(0, 0, told);
        }
        for (int left = 7; left >= 0; left--) {
            check.is(y.undo(), left);
        }
        check.is(y.ofSheet(0, 0), 0);
        for (int left = 7; left >= 0; left--) {
            check.is(y.redo(), left);
            check.is(y.words(0, 0), (8 - left) + "q");
        }
        check.fails(y, Check.STATE, () -> y.redo());
    }

    private static void nothingKept() {
        check.says("Throws `IllegalStateException` if none is kept");
        TabulaWorks x = new TabulaWorks();
        check.fails(x, Check.STATE, () -> x.undo());
        check.fails(x, Check.STATE, () -> x.redo());
        x.number(0, 0, 4);
        check.fails(x, Check.STATE, () -> x.redo());
        x.undo();
        check.fails(x, Check.STATE, () -> x.undo());
        check.is(x.redo(), 0);
        check.fails(x, Check.STATE, () -> x.redo());
        x.hold(true);
        x.reckon();
        x.ring();
        check.is(x.undo(), 0);
        check.fails(x, Check.STATE, () -> x.undo());
    }

    private static void undoRedo() {
        check.says("To UNDO: all that is as the latest one that is kept, and what was is kept to be done again. "
            + "To REDO: the other way round.");
        TabulaWorks x = new TabulaWorks();
        String[] states = new String[Check.CHANGES + 1];
        x.number(0, 0, 4);
        x.number(0, 6, 8);
        Check.tell(x, "B2", "=SUM(A1:A2)");
        states[0] = Check.kept(x);
        int[] order = {1, 3, 4, 9, 10, 11, 12, 13};
        for (int k = 0; k < 8; k++) {
            Check.change(x, order[k]);
            states[k + 1] = Check.kept(x);
        }
        // Back and forth over all of them, each time a step farther.
        for (int far = 1; far <= 8; far++) {
            for (int k = 1; k <= far; k++) {
                check.is(x.undo(), 8 - k);
                check.is(Check.kept(x), states[8 - k]);
            }
            for (int k = 1; k <= far; k++) {
                check.is(x.redo(), far - k);
                check.is(Check.kept(x), states[8 - far + k]);
            }
        }
    }

    private static void forgets() {
        check.says("A call that is kept forgets what could be done again.");
        for (int nth = 0; nth < Check.CHANGES; nth++) {
            TabulaWorks x = Check.sample();
            x.number(1, 30, 4);
            x.number(1, 30, 8);
            x.undo();
            x.undo();
            check.is(x.many(2) * 10 + x.many(3), 62);
            Check.change(x, nth);
            check.is(x.many(2) * 10 + x.many(3), 70);
            check.fails(x, Check.STATE, () -> x.redo());
            check.is(x.undo(), 6);
            check.is(x.many(3), 1);
        }
    }

    private static void forgetsNot() {
        check.says("A call that is kept forgets what could be done again.");
        TabulaWorks x = Check.sample();
        x.number(1, 30, 4);
        x.lock(0, 0, true);
        x.number(1, 30, 8);
        x.undo();
        x.hold(true);
        x.reckon();
        x.hold(false);
        x.ring();
        check.fails(x, Check.INDEX, () -> x.number(2, 0, 0));
        check.fails(x, Check.ARGUMENT, () -> x.number(0, 0, 100001));
        check.fails(x, Check.STATE, () -> x.number(0, 0, 0));
        check.is(x.redo(), 0);
        check.is(x.words(1, 30), "8q");
    }

    private static void valuesFollow() {
        check.says("VALUES follow (if not HELD).");
        TabulaWorks x = new TabulaWorks();
        x.number(0, 0, 4);
        Check.tell(x, "A2", "=PLUS(A1,4q)");
        x.number(0, 0, 8);
        x.undo();
        check.is(Check.text(x, "A1") + Check.text(x, "A2"), "1.002.00");
        x.redo();
        check.is(Check.text(x, "A1") + Check.text(x, "A2"), "2.003.00");
        x.hide(0, 0, true);
        Check.tell(x, "A3", "=SHOWN(A1:A1)");
        x.hide(0, 0, false);
        check.is(Check.text(x, "A3"), "2.00");
        x.undo();
        check.is(Check.text(x, "A3"), "0.00");
        check.is(x.ofSheet(0, 3), 0);
    }

    private static void valuesFollowWhenHeld() {
        check.says("VALUES follow (if not HELD).");
        TabulaWorks x = new TabulaWorks();
        x.number(0, 0, 4);
        Check.tell(x, "A2", "=PLUS(A1,4q)");
        x.number(0, 0, 8);
        x.hold(true);
        x.undo();
        check.is(Check.words(x, "A1") + Check.text(x, "A1") + Check.text(x, "A2"), "4q2.003.00");
        check.is(x.ofSheet(0, 3), 2);
        x.redo();
        check.is(x.ofSheet(0, 3), 0);
        x.undo();
        x.undo();
        check.is(Check.text(x, "A2"), "3.00");
        check.is(x.reckon(), 2);
        check.is(Check.text(x, "A1") + Check.text(x, "A2"), "1.00");
        x.redo();
        check.is(Check.text(x, "A2"), "");
        // What is shown is not kept: it stays as it is, whether done or undone.
        check.is(x.hold(false), true);
        check.is(Check.text(x, "A2"), "2.00");
    }

    private static void digits() {
        check.says("DIGITS of a CELL (0 to 2; 2 at first): as many digits as it is shown with behind the point.");
        TabulaWorks x = new TabulaWorks();
        for (int place = 0; place < 120; place++) {
            check.is(x.ofCell(place / 60, place % 60, 3), 2);
        }
        x.number(1, 59, 4);
        check.is(x.text(1, 59), "1.00");
        check.is(x.digits(1, 59, 1), 2);
        check.is(x.text(1, 59), "1.0");
        check.is(x.digits(1, 59, 0), 1);
        check.is(x.text(1, 59), "1");
        check.is(x.digits(1, 59, 2), 0);
        check.fails(x, Check.ARGUMENT, () -> x.digits(1, 59, 3));
        check.fails(x, Check.ARGUMENT, () -> x.digits(1, 59, -1));
        // They stay with the place, whatever it holds, held or not.
        x.digits(1, 59, 0);
        x.clear(1, 59);
        x.hold(true);
        x.number(1, 59, 8);
        check.is(x.text(1, 59), "");
        x.hold(false);
        check.is(x.text(1, 59), "2");
        x.hold(true);
        x.digits(1, 59, 1);
        check.is(x.text(1, 59), "2.0");
    }

    private static void bell() {
        check.says("The CLERK's bell is out of reach: who rings holds nothing, and is REFUSED (counted).");
        TabulaWorks x = Check.sample();
        check.is(x.many(5), 0);
        String kept = Check.kept(x);
        int undos = x.many(2);
        for (int nth = 1; nth <= 20; nth++) {
            check.is(x.ring(), nth);
            check.is(x.many(5), nth);
            check.is(x.many(4), 0);
            check.is(x.many(2), undos);
        }
        check.is(Check.kept(x), kept);
        // Calls that throw are not counted, and undoing takes none back.
        check.fails(x, Check.STATE, () -> x.clear(1, 59));
        check.fails(x, Check.INDEX, () -> x.clear(1, 60));
        x.undo();
        check.is(x.many(5), 20);
        x.redo();
        check.is(x.ring(), 21);
        check.is(new TabulaWorks().many(5), 0);
    }

    // ---- what is asked, and what would be

    private static void asksChangeNothing() {
        check.says("what would be (nothing is changed; reckoned as if it was not HELD)");
        for (int held = 0; held < 2; held++) {
            TabulaWorks x = Check.sample();
            x.hold(held == 1);
            x.move(0, 0, 0, 12);
            x.number(0, 13, 4);
            x.undo();
            String before = Check.all(x);
            long digest = x.digest();
            for (int place = 0; place < 120; place += 7) {
                x.would(place / 60, place % 60, 100000, 0, 1);
                x.goal(place / 60, place % 60, 0, 1, -100000);
                x.group(0, place % 6, 1, place % 10, place % 3);
            }
            for (int line = 0; line < 10; line++) {
                x.breaks(0, true, line);
                x.breaks(1, true, line);
                x.breaks(0, false, line % 6);
            }
            check.is(x.isSound(), held == 0);
            check.is(Check.all(x), before);
            check.is(x.digest(), digest);
            check.is(x.redo(), 0);
        }
    }

    /** All calls of one run live in one room: none makes more than a text, a small object or an exception. */
    private static void room() {
        check.says("An object is used for at most 512 calls after it has been made");
        TabulaWorks x = Check.sample();
        long[] used = new long[8];
        for (int round = 0; round < 3; round++) {
            for (int k = 0; k < used.length; k++) {
                long before = allocated();
                for (int call = 0; call < 512; call++) {
                    dearCall(x, k, call);
                }
                used[k] = allocated() - before;
            }
        }
        for (long bytes : used) {
            check.is(bytes < 512 * 250L, true);
        }
    }

    private static void dearCall(TabulaWorks x, int kind, int call) {
        switch (kind) {
            case 0: x.digest(); break;
            case 1: x.breaks(call % 2, true, call % 10); break;
            case 2: x.goal(0, call % 60, 0, 1, 0); break;
            case 3: x.words(1, 6); x.text(1, 6); break;
            case 4: x.take(0, false, 5); break;
            case 5: x.put(0, false, 5); break;
            case 6: x.undo(); x.redo(); break;
            default: x.sort(0, 0, 9, 1, call % 2 == 0); x.move(0, 0, 1, 30); x.move(1, 30, 0, 0); break;
        }
    }

    private static long allocated() {
        return ((com.sun.management.ThreadMXBean) ManagementFactory.getThreadMXBean()).getCurrentThreadAllocatedBytes();
    }
}
