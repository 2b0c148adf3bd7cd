/** Promises 11 to 20: rows hidden, names, digits, locks, held reckoning, undoing and redoing, the bell. */
public final class KeptTest {
    private static final Check check = new Check("KeptTest");

    private KeptTest() {
    }

    public static void main(String[] args) {
        filters();
        hides();
        names();
        digits();
        locks();
        holds();
        reckons();
        undoes();
        redoes();
        everyCallIsKept();
        rings();
        check.end();
    }

    private static void filters() {
        check.promise(11);
        TabulaWorks x = new TabulaWorks();
        Check.put(x, "B1", 4);
        Check.put(x, "B2", 5);
        Check.put(x, "B3", 6);
        Check.tell(x, "B4", "=BY(1q,0q)");
        Check.tell(x, "C1", "=SHOWN(B1:B3)");
        x.hide(0, 2, true);
        check.is(x.filter(0, 1, 5), 8);
        check.is(x.ofSheet(0, 5), 1023 - 2 - 4);
        check.is(x.ofSheet(1, 5), 0);
        check.is(Check.value(x, "C1"), 2.75);
        check.is(x.filter(0, 1, -2000000000), 7);
        check.is(x.filter(0, 0, Integer.MIN_VALUE), 10);
        check.is(x.filter(0, 1, Integer.MAX_VALUE), 10);
        check.is(x.undo(), 8 - 1);
        // Shown values count, held ones too.
        x.hold(true);
        Check.put(x, "B1", 100);
        check.is(x.filter(0, 1, 10), 10);
        check.is(Check.value(x, "C1"), 0.0);
        x.hold(false);
        check.is(x.filter(0, 1, 10), 9);
        // Values ahead of it: a SHOWN of its own column shows what it was.
        TabulaWorks y = new TabulaWorks();
        Check.put(y, "B1", 4);
        Check.put(y, "B2", 8);
        Check.tell(y, "A3", "=SHOWN(B1:B2)");
        check.is(y.filter(0, 0, 12), 9);
        check.is(y.ofSheet(0, 5), 1019);
        check.is(Check.value(y, "A3"), 0.0);
        check.is(y.filter(0, 0, 12), 10);
        check.fails(x, Check.INDEX, () -> x.filter(0, 6, 0));
        check.fails(x, Check.INDEX, () -> x.filter(0, -1, 0));
        check.fails(x, Check.INDEX, () -> x.filter(2, 0, 0));
        // A lock lets rows be hidden.
        x.lock(0, 0, true);
        check.is(x.filter(0, 0, 0), 10);
    }

    private static void hides() {
        check.promise(12);
        TabulaWorks x = new TabulaWorks();
        check.is(x.hide(1, 9, true), false);
        check.is(x.ofSheet(1, 5), 512);
        check.is(x.hide(1, 9, true), true);
        check.is(x.hide(1, 9, false), true);
        check.is(x.ofSheet(1, 5), 0);
        check.is(x.many(2), 3);
        check.fails(x, Check.INDEX, () -> x.hide(1, 10, true));
        check.fails(x, Check.INDEX, () -> x.hide(1, -1, true));
        check.fails(x, Check.INDEX, () -> x.hide(2, 0, true));
    }

    private static void names() {
        check.promise(13);
        TabulaWorks x = new TabulaWorks();
        check.is(x.name(1, 1, Check.at("C4"), Check.at("B2")), 0);
        check.is(x.ofName(1, 0) + " " + x.ofName(1, 1) + " " + x.ofName(1, 2) + " " + x.ofName(1, 3), "1 20 7 6");
        x.number(1, Check.at("B2"), 12);
        x.number(1, Check.at("C3"), 20);
        Check.tell(x, "A1", "=SUM(N1)");
        Check.tell(x, "A2", "=PLUS(N1,N1)");
        Check.tell(x, "A3", "=FIND(N0,N1)");
        Check.tell(x, "A4", "=CHOICE(0q,0q,N2)");
        check.is(Check.value(x, "A1") + " " + Check.value(x, "A2"), "8.0 6.0");
        check.is(x.name(1, 0, Check.at("F1"), Check.at("F1")), 3);
        check.is(Check.value(x, "A1"), 0.0);
        check.is(x.name(0, 1, Check.at("B2"), Check.at("C3")), 1);
        check.is(Check.error(x, "A3"), 4);
        check.is(x.name(2, 1, Check.at("C3"), Check.at("C9")), 1);
        check.is(Check.value(x, "A4"), 5.0);
        check.fails(x, Check.INDEX, () -> x.name(3, 0, 0, 0));
        check.fails(x, Check.INDEX, () -> x.name(-1, 0, 0, 0));
        check.fails(x, Check.INDEX, () -> x.name(0, 2, 0, 0));
        check.fails(x, Check.INDEX, () -> x.name(0, 0, 60, 0));
        check.fails(x, Check.INDEX, () -> x.name(0, 0, 0, -1));
    }

    private static void digits() {
        check.promise(14);
        TabulaWorks x = new TabulaWorks();
        Check.put(x, "A1", 5);
        check.is(x.digits(0, 0, 1), 2);
        check.is(Check.text(x, "A1"), "1.2");
        check.is(x.digits(0, 0, 0), 1);
        check.is(Check.text(x, "A1"), "1");
        check.is(x.digits(0, 0, 0), 0);
        x.lock(0, 0, true);
        check.is(x.digits(0, 0, 2), 0);
        check.fails(x, Check.ARGUMENT, () -> x.digits(0, 0, 3));
        check.fails(x, Check.ARGUMENT, () -> x.digits(0, 0, -1));
        check.fails(x, Check.INDEX, () -> x.digits(0, 60, 3));
        check.fails(x, Check.INDEX, () -> x.digits(2, 0, 0));
    }

    private static void locks() {
        check.promise(15);
        TabulaWorks x = new TabulaWorks();
        check.is(x.lock(0, 5, true), false);
        check.is(x.lock(0, 5, true), true);
        check.is(x.ofCell(0, 5, 4) + x.ofCell(1, 5, 4) * 10, 1);
        check.fails(x, Check.STATE, () -> x.number(0, 5, 0));
        check.is(x.lock(0, 5, false), true);
        check.is(x.number(0, 5, 1), 0);
        check.is(x.many(2), 4);
        check.fails(x, Check.INDEX, () -> x.lock(0, 60, true));
        check.fails(x, Check.INDEX, () -> x.lock(0, -1, true));
        check.fails(x, Check.INDEX, () -> x.lock(-1, 0, true));
    }

    private static void holds() {
        check.promise(16);
        TabulaWorks x = new TabulaWorks();
        Check.put(x, "A1", 4);
        Check.tell(x, "A2", "=PLUS(A1,4q)");
        check.is(x.hold(false), false);
        check.is(x.hold(true), false);
        check.is(x.hold(true), true);
        check.is(x.many(4), 1);
        Check.put(x, "A1", 8);
        check.is(Check.text(x, "A1") + Check.text(x, "A2"), "1.002.00");
        check.is(Check.words(x, "A1"), "8q");
        // Values move with nothing: places keep what they showed.
        check.is(x.put(0, true, 0), 2);
        check.is(Check.text(x, "A1") + Check.text(x, "A2") + Check.text(x, "A3"), "1.002.00");
        check.is(x.ofSheet(0, 3), 2);
        x.clear(0, Check.at("A2"));
        x.undo();
        check.is(Check.text(x, "A2"), "2.00");
        check.is(x.many(2), 4);
        check.is(x.hold(false), true);
        check.is(Check.text(x, "A1") + Check.text(x, "A2") + Check.text(x, "A3"), "2.003.00");
        check.is(x.many(4), 0);
        check.is(x.ofSheet(0, 3), 0);
        // hold itself is not kept.
        check.is(x.many(2) * 10 + x.many(3), 41);
    }

    private static void reckons() {
        check.promise(17);
        TabulaWorks x = new TabulaWorks();
        Check.put(x, "A1", 4);
        check.is(x.reckon(), 0);
        x.hold(true);
        Check.put(x, "A1", 0);
        x.number(1, 59, 0);
        Check.tell(x, "A2", "=BY(4q,A1)");
        check.is(x.reckon(), 3);
        check.is(Check.text(x, "A1") + Check.text(x, "A2") + x.text(1, 59), "0.00!20.00");
        check.is(x.many(4), 1);
        check.is(x.reckon(), 0);
        Check.tell(x, "A2", "=PLUS(4q,A2)");
        check.is(x.reckon(), 1);
        check.is(Check.error(x, "A2"), 1);
        check.is(x.many(2), 5);
    }

    private static void undoes() {
        check.promise(18);
        TabulaWorks x = new TabulaWorks();
        check.fails(x, Check.STATE, () -> x.undo());
        for (int k = 1; k <= 10; k++) {
            x.number(0, 0, k);
        }
        check.is(x.many(2), 8);
        for (int k = 9; k >= 2; k--) {
            check.is(x.undo(), k - 2);
            check.is(x.words(0, 0), k + "q");
            check.is(x.value(0, 0), k / 4.0);
        }
        check.is(x.many(3), 8);
        check.fails(x, Check.STATE, () -> x.undo());
        // Redone things can be undone again.
        check.is(x.redo() + 10 * x.undo(), 7);
        // When held, what cells hold comes back, but not what they show.
        x.redo();
        x.hold(true);
        check.is(x.undo(), 0);
        check.is(x.words(0, 0), "2q");
        check.is(x.value(0, 0), 0.75);
        check.is(x.many(4), 1);
    }

    private static void redoes() {
        check.promise(19);
        TabulaWorks x = new TabulaWorks();
        check.fails(x, Check.STATE, () -> x.redo());
        for (int k = 1; k <= 12; k++) {
            x.number(0, 0, k);
        }
        for (int k = 0; k < 8; k++) {
            x.undo();
        }
        for (int k = 5; k <= 12; k++) {
            check.is(x.redo(), 12 - k);
            check.is(x.words(0, 0), k + "q");
        }
        check.is(x.many(2), 8);
        check.fails(x, Check.STATE, () -> x.redo());
        x.undo();
        x.undo();
        // A call that is refused, and what is only asked, forgets nothing; a call that is kept does.
        check.fails(x, Check.INDEX, () -> x.number(0, 60, 1));
        x.would(0, 0, 1, 0, 0);
        x.breaks(0, true, 0);
        x.goal(0, 0, 0, 0, 0);
        x.hold(true);
        x.reckon();
        x.hold(false);
        x.ring();
        check.is(x.many(3), 2);
        x.hide(0, 0, false);
        check.is(x.many(3), 0);
        check.fails(x, Check.STATE, () -> x.redo());
        check.is(x.many(2), 7);
        check.is(x.words(0, 0), "10q");
    }

    /** Each call of the first heading that is let is kept, also if it changes nothing. */
    private static void everyCallIsKept() {
        check.promise(18);
        TabulaWorks x = new TabulaWorks();
        for (int k = 0; k < Check.CHANGES; k++) {
            TabulaWorks y = new TabulaWorks();
            Check.put(y, "A2", 4);
            Check.tell(y, "B2", "=SUM(A1:A2)");
            y.name(0, 0, 0, 6);
            String before = Check.kept(y);
            Check.change(y, k);
            check.is(y.many(2), 4);
            String after = Check.kept(y);
            check.is(after.equals(before), false);
            check.is(y.undo(), 3);
            check.is(Check.kept(y), before);
            check.is(y.redo(), 0);
            check.is(Check.kept(y), after);
        }
        check.is(x.many(2), 0);
        x.clear(0, 0);
        x.copy(0, 0, 0, 0);
        x.fill(0, 0, 0);
        x.move(0, 0, 0, 0);
        x.put(0, true, 9);
        x.sort(0, 0, 9, 0, true);
        x.lock(0, 0, false);
        check.is(x.many(2), 7);
    }

    private static void rings() {
        check.promise(20);
        TabulaWorks x = new TabulaWorks();
        x.lock(0, 0, true);
        check.fails(x, Check.STATE, () -> x.number(0, 0, 0));
        check.is(x.many(5), 0);
        x.hold(true);
        check.is(x.ring(), 1);
        check.is(x.ring(), 2);
        check.is(x.many(5), 2);
        check.is(x.many(4), 1);
        check.is(x.many(2), 1);
        x.undo();
        check.is(x.many(5), 2);
        check.is(x.many(3), 1);
        check.is(x.ring(), 3);
        check.is(x.many(3), 1);
    }
}
