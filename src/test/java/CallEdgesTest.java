import java.lang.reflect.InvocationTargetException;
import java.lang.reflect.Method;
import java.util.ArrayList;
import java.util.List;

/**
 * What every call takes and throws ("Throws .. if .." of promises 2 to 31): each argument at its limits and
 * beyond them, and which exception goes first.
 */
public final class CallEdgesTest {
    private static final Check check = new Check("CallEdgesTest");
    private static final String FIRST = "If several exceptions apply, the one that is named first is thrown.";

    /** An argument: a good one, its limits, and what is thrown beyond them; null if any is good. */
    private record Part(int good, int least, int most, Class<?> thrown) {
    }

    private static final Part SHEET = new Part(0, 0, 1, Check.INDEX);
    private static final Part CELL = new Part(7, 0, 59, Check.INDEX);
    private static final Part ROW = new Part(2, 0, 9, Check.INDEX);
    private static final Part COLUMN = new Part(1, 0, 5, Check.INDEX);
    private static final Part NAME = new Part(0, 0, 2, Check.INDEX);
    private static final Part QUARTERS = new Part(4, -100000, 100000, Check.ARGUMENT);
    private static final Part FUNCTION = new Part(15, 0, 15, Check.ARGUMENT);
    private static final Part CODE = new Part(20, -1000, 482, Check.ARGUMENT);
    private static final Part CORNER = new Part(20, 0, 59, null);
    private static final Part ANY = new Part(4, Integer.MIN_VALUE, Integer.MAX_VALUE, null);
    private static final Part YES = new Part(1, 0, 1, null);

    private CallEdgesTest() {
    }

    private static Part what(int most) {
        return new Part(0, 0, most, Check.ARGUMENT);
    }

    private static Part fixed(int good) {
        return new Part(good, good, good, null);
    }

    public static void main(String[] args) {
        told();
        changed();
        asked();
        wouldBe();
        formulas();
        notOneSheet();
        sortsBackwards();
        lockedOnes();
        lastHeld();
        noneKept();
        changesNothing();
        check.end();
    }

    private static void told() {
        call(2, "number", SHEET, CELL, QUARTERS);
        call(3, "formula", SHEET, CELL, new Part(8, 0, 15, Check.ARGUMENT), CODE, CODE, CODE);
        call(3, "formula", SHEET, CELL, FUNCTION, new Part(480, 480, 482, Check.ARGUMENT), ANY, CODE);
        call(3, "formula", SHEET, CELL, FUNCTION, CORNER, new Part(0, 0, 59, Check.ARGUMENT), CODE);
        call(4, "clear", SHEET, CELL);
        call(5, "copy", SHEET, CELL, SHEET, CELL);
        call(6, "fill", SHEET, CELL, CELL);
        call(7, "move", SHEET, CELL, SHEET, CELL);
    }

    private static void changed() {
        call(8, "put", SHEET, fixed(1), ROW);
        call(8, "put", SHEET, fixed(0), COLUMN);
        call(9, "take", SHEET, fixed(1), ROW);
        call(9, "take", SHEET, fixed(0), COLUMN);
        call(10, "sort", SHEET, new Part(0, 0, 9, Check.INDEX), new Part(9, 0, 9, Check.INDEX), COLUMN, YES);
        call(11, "filter", SHEET, COLUMN, ANY);
        call(12, "hide", SHEET, ROW, YES);
        call(13, "name", NAME, SHEET, CELL, CELL);
        call(14, "digits", SHEET, CELL, new Part(1, 0, 2, Check.ARGUMENT));
        call(15, "lock", SHEET, CELL, YES);
        call(16, "hold", YES);
        call(17, "reckon");
        call(20, "ring");
    }

    private static void asked() {
        call(21, "value", SHEET, CELL);
        call(22, "ofCell", SHEET, CELL, what(9));
        call(23, "words", SHEET, CELL);
        call(24, "text", SHEET, CELL);
        call(25, "ofSheet", SHEET, what(7));
        call(26, "ofName", NAME, what(4));
        call(27, "many", what(7));
        call(28, "group", SHEET, COLUMN, COLUMN, what(9), what(2));
    }

    private static void wouldBe() {
        call(29, "would", SHEET, CELL, QUARTERS, SHEET, CELL);
        call(30, "goal", SHEET, CELL, SHEET, CELL, QUARTERS);
        call(31, "breaks", SHEET, fixed(1), ROW);
        call(31, "breaks", SHEET, fixed(0), COLUMN);
        call(32, "isSound");
        call(33, "digest");
    }

    private static Object run(TabulaWorks x, String name, int[] told) {
        for (Method method : TabulaWorks.class.getMethods()) {
            if (method.getName().equals(name) && method.getDeclaringClass() == TabulaWorks.class) {
                Object[] arguments = new Object[told.length];
                for (int k = 0; k < told.length; k++) {
                    boolean isYes = method.getParameterTypes()[k] == boolean.class;
                    arguments[k] = isYes ? (Object) (told[k] == 1) : (Object) told[k];
                }
                try {
                    return method.invoke(x, arguments);
                } catch (InvocationTargetException e) {
                    return e.getCause().getClass();
                } catch (IllegalAccessException e) {
                    return e.getClass();
                }
            }
        }
        return "no such call";
    }

    /** Each argument alone at its limits and beyond; then each two of them beyond theirs. */
    private static void call(int promise, String name, Part... parts) {
        check.promise(promise);
        int[] throwing = new int[2];
        for (Part part : parts) {
            throwing[0] += part.thrown == Check.INDEX ? 1 : 0;
            throwing[1] += part.thrown == Check.ARGUMENT ? 1 : 0;
        }
        check.is(check.promises(promise, "Throws `IndexOutOfBoundsException` if"), throwing[0] > 0);
        check.is(check.promises(promise, "Throws `IllegalArgumentException` if"), throwing[1] > 0 || name.equals("sort"));
        int[] good = new int[parts.length];
        for (int k = 0; k < parts.length; k++) {
            good[k] = parts[k].good;
        }
        lets(name, good);
        for (int k = 0; k < parts.length; k++) {
            lets(name, with(good, k, parts[k].least));
            lets(name, with(good, k, parts[k].most));
            for (int beyond : beyond(parts[k])) {
                refuses(name, with(good, k, beyond), parts[k].thrown);
                for (int other = 0; other < parts.length; other++) {
                    boolean isFirst = parts[k].thrown == Check.INDEX || parts[k].thrown == parts[other].thrown;
                    for (int worse : other != k && isFirst ? beyond(parts[other]) : new int[0]) {
                        refuses(name, with(with(good, k, beyond), other, worse), parts[k].thrown);
                    }
                }
            }
        }
    }

    private static int[] with(int[] good, int k, int other) {
        int[] told = good.clone();
        told[k] = other;
        return told;
    }

    private static int[] beyond(Part part) {
        boolean isAny = part.thrown == null;
        return isAny ? new int[0] : new int[] {part.least - 1, part.most + 1, Integer.MIN_VALUE, Integer.MAX_VALUE};
    }

    private static void lets(String name, int[] told) {
        Object got = run(new TabulaWorks(), name, told);
        check.is(got instanceof Class ? name + java.util.Arrays.toString(told) + got : "let", "let");
    }

    /** Refused on a new object, on one that holds something, and on one all of whose cells are locked. */
    private static void refuses(String name, int[] told, Class<?> thrown) {
        List<TabulaWorks> objects = new ArrayList<>();
        objects.add(new TabulaWorks());
        objects.add(locked());
        for (TabulaWorks x : objects) {
            check.fails(x, thrown, () -> run(x, name, told));
        }
    }

    /** Refused for what it does, if the arguments are good: the last lines are not empty, all cells are locked. */
    private static TabulaWorks locked() {
        TabulaWorks x = Check.sample();
        x.number(0, 59, 4);
        x.number(1, 59 - 6, 4);
        for (int place = 0; place < 120; place++) {
            x.lock(place / 60, place % 60, true);
        }
        x.undo();
        return x;
    }

    private static void formulas() {
        check.says("if function is not 0 to 15, an OPERAND that it has is not -1000 to 482, or (9 to 15) ONE and TWO are not "
            + "REFERENCES to one SHEET, and ONE is no NAME");
        TabulaWorks x = new TabulaWorks();
        int[] wrong = {-1001, 483, Integer.MIN_VALUE, Integer.MAX_VALUE};
        for (int function = 0; function <= 15; function++) {
            int f = function;
            boolean hasThree = f == 8 || f == 15;
            for (int code : wrong) {
                check.fails(x, Check.ARGUMENT, () -> x.formula(0, 30, f, code, 0, 0));
                check.fails(x, Check.ARGUMENT, () -> x.formula(0, 30, f, 0, code, 0));
                if (hasThree) {
                    check.fails(x, Check.ARGUMENT, () -> x.formula(0, 30, f, 0, 0, code));
                    check.fails(x, Check.ARGUMENT, () -> x.formula(0, 30, f, 480, 0, code));
                } else {
                    check.is(x.formula(0, 30, f, 0, 0, code) >= 0, true);
                }
                if (f >= 9) {
                    check.is(x.formula(0, 30, f, 480, code, 0) >= 0, true);
                } else {
                    check.fails(x, Check.ARGUMENT, () -> x.formula(0, 30, f, 480, code, 0));
                    check.is(x.formula(0, 30, f, 480, 482, 481) >= 0, true);
                }
            }
        }
    }

    private static void notOneSheet() {
        check.says("(9 to 15) ONE and TWO are not REFERENCES to one SHEET, and ONE is no NAME");
        int[] ones = {0, 59, 60, 119, 120, 180, 240, 300, 360, 479, -1, -1000, -500};
        int[] twos = {0, 59, 60, 119, 120, 180, 240, 300, 360, 479, -1, -1000, -500, 480, 482};
        for (int function = 9; function <= 15; function++) {
            for (int one : ones) {
                for (int two : twos) {
                    TabulaWorks x = new TabulaWorks();
                    int f = function;
                    boolean isRange = one >= 0 && two >= 0 && two < 480 && one / 60 % 2 == two / 60 % 2;
                    if (isRange) {
                        check.is(x.formula(0, 30, f, one, two, 0) >= 0, true);
                    } else {
                        check.fails(x, Check.ARGUMENT, () -> x.formula(0, 30, f, one, two, 0));
                        check.fails(x, Check.INDEX, () -> x.formula(0, 60, f, one, two, 0));
                        x.lock(0, 30, true);
                        check.fails(x, Check.ARGUMENT, () -> x.formula(0, 30, f, one, two, 0));
                    }
                }
            }
        }
    }

    private static void sortsBackwards() {
        check.says("if to is below from");
        TabulaWorks x = new TabulaWorks();
        for (int from = 0; from < 10; from++) {
            int first = from;
            check.is(x.sort(0, first, first, 0, true), 0);
            if (from > 0) {
                check.fails(x, Check.ARGUMENT, () -> x.sort(0, first, first - 1, 0, true));
                check.fails(x, Check.ARGUMENT, () -> x.sort(0, first, 0, 0, false));
                check.fails(x, Check.INDEX, () -> x.sort(0, first, -1, 0, false));
                check.fails(x, Check.INDEX, () -> x.sort(0, first, first - 1, 6, false));
                check.fails(x, Check.INDEX, () -> x.sort(2, first, first - 1, 0, false));
            }
        }
        check.says(FIRST);
        x.lock(0, 0, true);
        check.fails(x, Check.ARGUMENT, () -> x.sort(0, 1, 0, 0, true));
        check.fails(x, Check.STATE, () -> x.sort(0, 0, 1, 0, true));
        check.fails(x, Check.INDEX, () -> x.sort(0, 0, 10, 0, true));
    }

    private static void isLocked(String sentence, Check.Call call, TabulaWorks x) {
        check.says("Throws `IllegalStateException` " + sentence);
        check.fails(x, Check.STATE, call);
    }

    /** B2 is locked, and holds nothing; all the rest is let. */
    private static void lockedOnes() {
        TabulaWorks x = new TabulaWorks();
        x.lock(0, 7, true);
        isLocked("if it is LOCKED", () -> x.number(0, 7, 0), x);
        isLocked("if it is LOCKED", () -> x.clear(0, 7), x);
        isLocked("if the CELL is LOCKED", () -> x.formula(0, 7, 0, 0, 0, 0), x);
        isLocked("if the CELL to which is LOCKED", () -> x.copy(1, 7, 0, 7), x);
        isLocked("if one to which is LOCKED", () -> x.fill(0, 0, 7), x);
        isLocked("if one of both is LOCKED", () -> x.move(0, 7, 1, 7), x);
        isLocked("if one of both is LOCKED", () -> x.move(1, 7, 0, 7), x);
        isLocked("if a CELL of it is LOCKED", () -> x.take(0, true, 1), x);
        isLocked("if a CELL of it is LOCKED", () -> x.take(0, false, 1), x);
        isLocked("if a CELL of these ROWS is LOCKED", () -> x.sort(0, 0, 1, 5, true), x);
        isLocked("if a CELL of these ROWS is LOCKED", () -> x.sort(0, 1, 2, 5, true), x);
        check.is(x.number(1, 7, 0) + x.formula(0, 6, 0, 0, 0, 0) + x.copy(0, 7, 0, 8) + x.fill(0, 7, 7), 0);
        check.is(x.clear(0, 8), false);
        check.is(x.move(0, 8, 0, 9) + x.take(0, true, 2) + x.take(0, false, 2) + x.sort(0, 2, 9, 0, true), 0);
        // A2 has lost A1 twice, and B2 is B1 then, locked still.
        check.is(x.take(0, true, 0), 2);
        check.is(x.ofCell(0, 1, 4), 1);
    }

    private static void lastHeld() {
        TabulaWorks x = new TabulaWorks();
        x.number(0, 59, 0);
        isLocked("if the last one is not EMPTY", () -> x.put(0, true, 0), x);
        isLocked("if the last one is not EMPTY", () -> x.put(0, false, 0), x);
        x.move(0, 59, 0, 58);
        isLocked("if the last one is not EMPTY", () -> x.put(0, true, 9), x);
        check.is(x.put(0, false, 5), 0);
        x.move(0, 58, 0, 53);
        isLocked("if the last one is not EMPTY", () -> x.put(0, false, 5), x);
        check.is(x.put(0, true, 9), 0);
    }

    private static void noneKept() {
        TabulaWorks x = new TabulaWorks();
        isLocked("if none is kept", () -> x.undo(), x);
        isLocked("if none is kept", () -> x.redo(), x);
        x.lock(0, 0, false);
        isLocked("if none is kept", () -> x.redo(), x);
        check.is(x.undo(), 0);
        isLocked("if none is kept", () -> x.undo(), x);
        check.is(x.redo(), 0);
        isLocked("if none is kept", () -> x.redo(), x);
    }

    /** Also nothing of what is kept: undoing and doing again go on as if the calls had not been. */
    private static void changesNothing() {
        check.says("A method that throws an exception changes nothing.");
        TabulaWorks x = Check.sample();
        TabulaWorks y = Check.sample();
        for (TabulaWorks z : new TabulaWorks[] {x, y}) {
            z.lock(0, 7, true);
            z.number(0, 30, 4);
            z.undo();
            z.undo();
            z.redo();
            z.hold(true);
        }
        refusals(x);
        check.fails(x, Check.STATE, () -> x.clear(1, 59));
        check.fails(x, Check.STATE, () -> x.fill(1, 0, 59));
        check.fails(x, Check.STATE, () -> x.take(1, true, 9));
        check.fails(x, Check.STATE, () -> x.sort(1, 0, 9, 0, true));
        for (int k = 0; k < 8; k++) {
            check.is(Check.all(x), Check.all(y));
            if (k == 0) {
                check.is(x.redo(), y.redo());
            } else {
                check.is(x.undo(), y.undo());
            }
            refusals(x);
        }
        check.is(x.hold(false), true);
        y.hold(false);
        check.is(Check.all(x), Check.all(y));
        check.is(x.digest(), y.digest());
    }

    private static void refusals(TabulaWorks x) {
        check.fails(x, Check.INDEX, () -> x.number(0, 60, 100001));
        check.fails(x, Check.INDEX, () -> x.name(0, 0, 0, 60));
        check.fails(x, Check.INDEX, () -> x.hide(0, 10, true));
        check.fails(x, Check.INDEX, () -> x.filter(0, 6, 0));
        check.fails(x, Check.INDEX, () -> x.lock(2, 0, true));
        check.fails(x, Check.ARGUMENT, () -> x.digits(0, 0, 3));
        check.fails(x, Check.ARGUMENT, () -> x.formula(0, 0, 9, 0, 60, 0));
        check.fails(x, Check.ARGUMENT, () -> x.sort(0, 1, 0, 0, true));
        check.fails(x, Check.ARGUMENT, () -> x.ofCell(0, 0, 10));
        check.fails(x, Check.ARGUMENT, () -> x.goal(0, 0, 0, 0, 100001));
        check.fails(x, Check.INDEX, () -> x.breaks(0, true, 10));
    }
}
