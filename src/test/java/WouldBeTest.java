/** Promises 29 to 33: what would be, soundness, the digest. */
public final class WouldBeTest {
    private static final Check check = new Check("WouldBeTest");

    private WouldBeTest() {
    }

    public static void main(String[] args) {
        would();
        goals();
        wrongGoals();
        breaks();
        sound();
        digests();
        check.end();
    }

    private static void would() {
        check.promise(29);
        TabulaWorks x = new TabulaWorks();
        Check.put(x, "A1", 4);
        Check.tell(x, "A2", "=PLUS(A1,4q)");
        Check.tell(x, "A3", "=BY(A2,A1)");
        x.lock(0, 0, true);
        long before = x.digest();
        check.is(x.would(0, 0, 8, 0, Check.at("A3")), 1.5);
        check.is(x.would(0, 0, 0, 0, Check.at("A3")), 0.0);
        check.is(x.would(0, 0, 100000, 0, 0), 25000.0);
        check.is(x.would(0, 0, 8, 1, 0), 0.0);
        // A formula would be told over.
        check.is(x.would(0, 6, 20, 0, Check.at("A3")), 5.0);
        check.is(x.digest(), before);
        Check.tell(x, "B1", "=PLUS(B2,1q)");
        Check.tell(x, "B2", "=PLUS(B1,1q)");
        check.is(x.would(0, Check.at("B1"), 4, 0, Check.at("B2")), 1.25);
        check.is(Check.error(x, "B2"), 1);
        x.hold(true);
        Check.tell(x, "A2", "=PLUS(A1,8q)");
        check.is(x.would(0, 0, 8, 0, Check.at("A3")), 2.0);
        check.is(Check.value(x, "A3"), 2.0);
        check.is(Check.ask(x, "A3", 5), 1);
        check.fails(x, Check.ARGUMENT, () -> x.would(0, 0, 100001, 0, 0));
        check.fails(x, Check.ARGUMENT, () -> x.would(0, 0, -100001, 0, 0));
        check.fails(x, Check.INDEX, () -> x.would(0, 0, 100001, 0, 60));
        check.fails(x, Check.INDEX, () -> x.would(0, 60, 0, 0, 0));
        check.fails(x, Check.INDEX, () -> x.would(0, 0, 0, 2, 0));
        check.fails(x, Check.INDEX, () -> x.would(-1, 0, 0, 0, 0));
    }

    private static int goal(TabulaWorks x, String to, int quarters) {
        return x.goal(0, 0, 0, Check.at(to), quarters);
    }

    private static void goals() {
        check.promise(30);
        TabulaWorks x = new TabulaWorks();
        Check.tell(x, "A2", "=TIMES(A1,A1)");
        Check.tell(x, "A3", "=BY(4q,A1)");
        Check.tell(x, "A4", "=PLUS(1q,2q)");
        Check.tell(x, "A5", "=PLUS(A5,A1)");
        Check.tell(x, "A6", "=LESS(A1,8q)");
        Check.tell(x, "A7", "=CHOICE(A1,N0,A1)");
        x.lock(0, 0, true);
        long before = x.digest();
        check.is(goal(x, "A1", 17), 17);
        check.is(goal(x, "A1", -100000), -40);
        check.is(goal(x, "A1", 100000), 40);
        // 3 ^ 2 and (-3) ^ 2 are as near: that above 0.
        check.is(goal(x, "A2", 36), 12);
        check.is(goal(x, "A2", -4), 0);
        // 0 is no double there: the nearest of the others.
        check.is(goal(x, "A3", 0), 40);
        check.is(goal(x, "A3", 16), 1);
        check.is(goal(x, "A3", -100000), -1);
        check.is(goal(x, "A4", 100), 0);
        check.is(goal(x, "A5", 0), -1001);
        check.is(goal(x, "F1", 0), -1001);
        check.is(goal(x, "A6", -7), 1);
        check.is(goal(x, "A7", 40), 0);
        check.is(x.goal(0, 0, 1, 0, 0), -1001);
        check.is(x.digest(), before);
        // One half is as near to 0 as to 1: 0.5 at 2q is told by 2 alone; of 1q and 3q that nearest to 0.
        Check.tell(x, "B1", "=BELOW(A1,4q)");
        check.is(goal(x, "B1", 2), 0);
        Check.tell(x, "B2", "=BELOW(4q,A1)");
        check.is(goal(x, "B2", 4), 5);
        Check.tell(x, "B3", "=BELOW(A1,-4q)");
        check.is(goal(x, "B3", 4), -5);
        // Told over, a circle is none.
        Check.tell(x, "C1", "=PLUS(C2,0q)");
        Check.tell(x, "C2", "=PLUS(C1,4q)");
        check.is(x.goal(0, Check.at("C1"), 0, Check.at("C2"), 10), 6);
        x.hold(true);
        x.lock(0, 0, false);
        Check.tell(x, "A2", "=PLUS(A1,A1)");
        check.is(goal(x, "A2", 36), 18);
    }

    private static void wrongGoals() {
        check.promise(30);
        TabulaWorks x = new TabulaWorks();
        check.fails(x, Check.ARGUMENT, () -> x.goal(0, 0, 0, 0, 100001));
        check.fails(x, Check.ARGUMENT, () -> x.goal(0, 0, 0, 0, -100001));
        check.fails(x, Check.INDEX, () -> x.goal(0, 60, 0, 0, 100001));
        check.fails(x, Check.INDEX, () -> x.goal(0, 0, 0, -1, 0));
        check.fails(x, Check.INDEX, () -> x.goal(0, 0, 2, 0, 0));
        check.fails(x, Check.INDEX, () -> x.goal(2, 0, 0, 0, 0));
    }

    private static void breaks() {
        check.promise(31);
        TabulaWorks x = new TabulaWorks();
        Check.put(x, "A3", 4);
        Check.tell(x, "B1", "=PLUS(A3,1q)");
        Check.tell(x, "B2", "=PLUS(B1,1q)");
        Check.tell(x, "B3", "=PLUS(A3,1q)");
        Check.tell(x, "B4", "=SUM(A2:A3)");
        Check.tell(x, "B5", "=SUM(A3:A3)");
        Check.tell(x, "B6", "=PLUS(A3,N0)");
        Check.tell(x, "B7", "=CHOICE(0q,A3,1q)");
        Check.tell(x, 1, "B3", "=PLUS(A3,1q)");
        Check.tell(x, "F10", "=PLUS(B10,S1!B3)");
        x.name(1, 0, Check.at("A3"), Check.at("B3"));
        Check.tell(x, "C9", "=COUNT(N1)");
        x.lock(0, Check.at("A3"), true);
        long before = x.digest();
        // B1, B2, B5, S1!B3, F10 and C9: B3 is taken out itself, B6 is an error already.
        check.is(x.breaks(0, true, 2), 6);
        check.is(x.breaks(0, true, 8), 0);
        // With column A: B3 and B4, too; C9 finds the error of what was B3.
        check.is(x.breaks(0, false, 0), 8);
        check.is(x.breaks(1, true, 2), 1);
        check.is(x.breaks(1, false, 1), 1);
        check.is(x.digest(), before);
        x.hold(true);
        x.lock(0, Check.at("A3"), false);
        Check.tell(x, "B2", "=PLUS(4q,1q)");
        check.is(x.breaks(0, true, 2), 5);
        check.fails(x, Check.INDEX, () -> x.breaks(0, true, 10));
        check.fails(x, Check.INDEX, () -> x.breaks(0, false, 6));
        check.fails(x, Check.INDEX, () -> x.breaks(0, false, -1));
        check.fails(x, Check.INDEX, () -> x.breaks(2, false, 0));
    }

    private static void sound() {
        check.promise(32);
        TabulaWorks x = new TabulaWorks();
        Check.tell(x, "B1", "=BY(A1,N0)");
        check.is(x.isSound(), true);
        x.copy(0, 1, 0, 0);
        check.is(x.isSound(), false);
        x.clear(0, 0);
        check.is(x.isSound(), true);
        x.hold(true);
        check.is(x.isSound(), true);
        Check.put(x, "F1", 0);
        check.is(x.isSound(), false);
        x.reckon();
        check.is(x.isSound(), true);
        Check.tell(x, "C1", "=CHOICE(1q,1q,C1)");
        x.reckon();
        check.is(x.isSound(), false);
    }

    private static void digests() {
        check.promise(33);
        TabulaWorks x = new TabulaWorks();
        check.is(x.digest(), digestOf(x));
        Check.put(x, "A1", 5);
        Check.tell(x, "B1", "=BY(A1,-12q)");
        Check.tell(x, 1, "B1", "=SUM(N0)");
        x.copy(0, 1, 0, 0);
        x.name(2, 1, 7, 8);
        x.hide(1, 3, true);
        x.digits(1, 1, 0);
        x.lock(1, 1, true);
        x.ring();
        x.undo();
        x.hold(true);
        Check.put(x, "B2", -7);
        check.is(x.digest(), digestOf(x));
        // Values count cut to a whole number, 64 times as great, towards 0 also below it.
        x.hold(false);
        Check.tell(x, "C1", "=BY(-4q,12q)");
        Check.tell(x, "C2", "=BY(400q,12q)");
        check.is(x.digest(), digestOf(x));
    }

    private static long digestOf(TabulaWorks x) {
        long d = 58323;
        for (int what = 0; what < 8; what++) {
            d = d * 31 + x.many(what);
        }
        for (int name = 0; name < 3; name++) {
            for (int what = 0; what < 5; what++) {
                d = d * 31 + x.ofName(name, what);
            }
        }
        for (int sheet = 0; sheet < 2; sheet++) {
            for (int what = 0; what < 8; what++) {
                d = d * 31 + x.ofSheet(sheet, what);
            }
            for (int cell = 0; cell < 60; cell++) {
                if (x.ofCell(sheet, cell, 0) != 0) {
                    d = d * 31 + cell;
                    for (int what = 0; what < 10; what++) {
                        d = d * 31 + x.ofCell(sheet, cell, what);
                    }
                    d = d * 31 + (long) (64.0 * x.value(sheet, cell));
                    d = d * 31 + x.words(sheet, cell).length();
                    d = d * 31 + x.text(sheet, cell).length();
                }
            }
        }
        return d * 31 + (x.isSound() ? 1 : 0);
    }
}
