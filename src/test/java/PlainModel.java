import java.util.ArrayDeque;
import java.util.ArrayList;
import java.util.Deque;
import java.util.HashSet;
import java.util.List;
import java.util.Set;
import java.util.TreeSet;

/**
 * The document once more, as slowly and plainly as can be, with the whole Java library: RandomRuns
 * holds the class against it. It shares no code and no way of keeping things with the class.
 */
final class PlainModel {
    static final String[] WORDS = {"PLUS", "LESS", "TIMES", "BY", "LESSER", "GREATER", "BELOW", "SAME", "CHOICE",
        "SUM", "COUNT", "MEAN", "LEAST", "MOST", "SHOWN", "FIND"};

    record Spot(int sheet, int row, int column) {
        int cell() {
            return row * 6 + column;
        }
    }

    static final class Operand {
        boolean isNumber;
        int quarters;
        int name = -1;
        Spot spot;
        boolean isColumnFixed;
        boolean isRowFixed;
        boolean isGone;

        static Operand of(int code) {
            Operand operand = new Operand();
            if (code < 0) {
                operand.isNumber = true;
                operand.quarters = code + 500;
            } else if (code >= 480) {
                operand.name = code - 480;
            } else {
                operand.spot = new Spot(code / 60 % 2, code % 60 / 6, code % 60 % 6);
                operand.isColumnFixed = code / 120 % 2 == 1;
                operand.isRowFixed = code / 240 == 1;
            }
            return operand;
        }

        Operand same() {
            Operand o = new Operand();
            o.isNumber = isNumber;
            o.quarters = quarters;
            o.name = name;
            o.spot = spot;
            o.isColumnFixed = isColumnFixed;
            o.isRowFixed = isRowFixed;
            o.isGone = isGone;
            return o;
        }

        boolean isReference() {
            return !isNumber && name < 0 && !isGone;
        }

        void lose() {
            isGone = true;
            spot = null;
        }
    }

    static final class Held {
        boolean isFormula;
        int quarters;
        int function;
        List<Operand> operands = new ArrayList<>();

        Held same() {
            Held h = new Held();
            h.isFormula = isFormula;
            h.quarters = quarters;
            h.function = function;
            for (Operand o : operands) {
                h.operands.add(o.same());
            }
            return h;
        }

        boolean hasCorners() {
            if (function < 9 || operands.get(0).name >= 0) {
                return false;
            }
            Operand one = operands.get(0);
            Operand two = operands.get(1);
            return one.isReference() && two.isReference() && one.spot.sheet() == two.spot.sheet();
        }
    }

    static final class State {
        Held[][][] held = new Held[2][10][6];
        int[][][] digits = new int[2][10][6];
        boolean[][][] locked = new boolean[2][10][6];
        boolean[][] hidden = new boolean[2][10];
        Spot[][] names = new Spot[3][];

        State() {
            for (Spot s : spots()) {
                digits[s.sheet()][s.row()][s.column()] = 2;
            }
        }

        State same() {
            State t = new State();
            for (Spot s : spots()) {
                Held h = at(s);
                t.put(s, h == null ? null : h.same());
                t.digits[s.sheet()][s.row()][s.column()] = digits[s.sheet()][s.row()][s.column()];
                t.locked[s.sheet()][s.row()][s.column()] = locked[s.sheet()][s.row()][s.column()];
                t.hidden[s.sheet()][s.row()] = hidden[s.sheet()][s.row()];
            }
            for (int n = 0; n < 3; n++) {
                t.names[n] = names[n] == null ? null : names[n].clone();
            }
            return t;
        }

        Held at(Spot s) {
            return held[s.sheet()][s.row()][s.column()];
        }

        void put(Spot s, Held h) {
            held[s.sheet()][s.row()][s.column()] = h;
        }

        boolean isLocked(Spot s) {
            return locked[s.sheet()][s.row()][s.column()];
        }

        List<Spot> formulas() {
            List<Spot> found = new ArrayList<>();
            for (Spot s : spots()) {
                if (at(s) != null && at(s).isFormula) {
                    found.add(s);
                }
            }
            return found;
        }
    }

    private State state = new State();
    private final Deque<State> undos = new ArrayDeque<>();
    private final Deque<State> redos = new ArrayDeque<>();
    private Object[][][] shown = new Object[2][10][6];
    private boolean isHeld;
    private int rings;

    static List<Spot> spots() {
        List<Spot> all = new ArrayList<>();
        for (int sheet = 0; sheet < 2; sheet++) {
            for (int row = 0; row < 10; row++) {
                for (int column = 0; column < 6; column++) {
                    all.add(new Spot(sheet, row, column));
                }
            }
        }
        return all;
    }

    static List<Spot> between(Spot a, Spot b) {
        List<Spot> all = new ArrayList<>();
        for (Spot s : spots()) {
            boolean isIn = s.sheet() == a.sheet()
                && s.row() >= Math.min(a.row(), b.row()) && s.row() <= Math.max(a.row(), b.row())
                && s.column() >= Math.min(a.column(), b.column()) && s.column() <= Math.max(a.column(), b.column());
            if (isIn) {
                all.add(s);
            }
        }
        return all;
    }

    // ---- reckoning

    /** The cells of a formula's range, null if it is lost. */
    static List<Spot> range(State st, Held h) {
        if (h.operands.get(0).name >= 0) {
            Spot[] named = st.names[h.operands.get(0).name];
            return named == null ? null : between(named[0], named[1]);
        }
        return h.hasCorners() ? between(h.operands.get(0).spot, h.operands.get(1).spot) : null;
    }

    static Spot single(State st, Operand o) {
        if (o.name >= 0) {
            return st.names[o.name] == null ? null : between(st.names[o.name][0], st.names[o.name][1]).get(0);
        }
        return o.isReference() ? o.spot : null;
    }

    static Set<Spot> needs(State st, Spot s) {
        Set<Spot> found = new HashSet<>();
        Held h = st.at(s);
        if (h == null || !h.isFormula) {
            return found;
        }
        int from = 0;
        if (h.function >= 9) {
            List<Spot> cells = range(st, h);
            if (cells != null) {
                found.addAll(cells);
            }
            from = h.operands.get(0).name >= 0 ? 1 : 2;
        }
        for (int k = from; k < h.operands.size(); k++) {
            Spot one = single(st, h.operands.get(k));
            if (one != null) {
                found.add(one);
            }
        }
        return found;
    }

    static Set<Spot> reach(State st, Spot s) {
        Set<Spot> found = new HashSet<>();
        Deque<Spot> open = new ArrayDeque<>(needs(st, s));
        while (!open.isEmpty()) {
            Spot next = open.pop();
            if (found.add(next)) {
                open.addAll(needs(st, next));
            }
        }
        return found;
    }

    static boolean isCircle(State st, Spot s) {
        return reach(st, s).contains(s);
    }

    static Object[][][] reckoned(State st) {
        Object[][][] values = new Object[2][10][6];
        boolean[][][] isDone = new boolean[2][10][6];
        for (Spot s : spots()) {
            valueOf(st, s, values, isDone);
        }
        return values;
    }

    private static Object valueOf(State st, Spot s, Object[][][] values, boolean[][][] isDone) {
        if (!isDone[s.sheet()][s.row()][s.column()]) {
            isDone[s.sheet()][s.row()][s.column()] = true;
            Held h = st.at(s);
            Object value = null;
            if (h != null && !h.isFormula) {
                value = h.quarters / 4.0;
            } else if (h != null && isCircle(st, s)) {
                value = 1;
            } else if (h != null) {
                value = made(st, h, values, isDone);
                if (value instanceof Double d) {
                    value = d > 1000000000.0 || d < -1000000000.0 ? (Object) 5 : (Object) (d + 0.0);
                }
            }
            values[s.sheet()][s.row()][s.column()] = value;
        }
        return values[s.sheet()][s.row()][s.column()];
    }

    private static Object operandValue(State st, Operand o, Object[][][] values, boolean[][][] isDone) {
        if (o.isNumber) {
            return o.quarters / 4.0;
        }
        Spot s = single(st, o);
        if (s == null) {
            return 3;
        }
        Object v = valueOf(st, s, values, isDone);
        return v == null ? (Object) 0.0 : v;
    }

    private static Object made(State st, Held h, Object[][][] values, boolean[][][] isDone) {
        if (h.function >= 9) {
            return madeOfRange(st, h, values, isDone);
        }
        Object one = operandValue(st, h.operands.get(0), values, isDone);
        if (one instanceof Integer) {
            return one;
        }
        double a = (Double) one;
        if (h.function == 8) {
            return operandValue(st, h.operands.get(a != 0.0 ? 1 : 2), values, isDone);
        }
        Object two = operandValue(st, h.operands.get(1), values, isDone);
        if (two instanceof Integer) {
            return two;
        }
        double b = (Double) two;
        switch (h.function) {
            case 0: return a + b;
            case 1: return a - b;
            case 2: return a * b;
            case 3: return b == 0.0 ? (Object) 2 : (Object) (a / b);
            case 4: return Math.min(a, b);
            case 5: return Math.max(a, b);
            case 6: return a < b ? 1.0 : 0.0;
            default: return a == b ? 1.0 : 0.0;
        }
    }

    private static Object madeOfRange(State st, Held h, Object[][][] values, boolean[][][] isDone) {
        List<Spot> cells = range(st, h);
        if (h.function == 15) {
            Object three = operandValue(st, h.operands.get(h.operands.size() - 1), values, isDone);
            if (three instanceof Integer) {
                return three;
            }
            if (cells == null) {
                return 3;
            }
            int left = cells.get(0).column();
            int right = cells.get(cells.size() - 1).column();
            for (Spot s : cells) {
                if (s.column() == left && three.equals(valueOf(st, s, values, isDone))) {
                    Object v = valueOf(st, new Spot(s.sheet(), s.row(), right), values, isDone);
                    return v == null ? (Object) 0.0 : v;
                }
            }
            return 4;
        }
        if (cells == null) {
            return 3;
        }
        List<Double> doubles = new ArrayList<>();
        for (Spot s : cells) {
            if (h.function == 14 && st.hidden[s.sheet()][s.row()]) {
                continue;
            }
            Object v = valueOf(st, s, values, isDone);
            if (v instanceof Integer) {
                return v;
            }
            if (v != null) {
                doubles.add((Double) v);
            }
        }
        double sum = 0.0;
        for (double d : doubles) {
            sum += d;
        }
        switch (h.function) {
            case 10: return (double) doubles.size();
            case 11: return doubles.isEmpty() ? (Object) 2 : (Object) (sum / doubles.size());
            case 12: return doubles.stream().min(Double::compare).orElse(0.0);
            case 13: return doubles.stream().max(Double::compare).orElse(0.0);
            default: return sum;
        }
    }

    private static int depth(State st, Spot s) {
        Held h = st.at(s);
        if (h == null || !h.isFormula) {
            return 0;
        }
        if (isCircle(st, s)) {
            return -1;
        }
        int most = 0;
        for (Spot n : needs(st, s)) {
            int d = depth(st, n);
            if (d < 0) {
                return -1;
            }
            most = Math.max(most, d);
        }
        return most + 1;
    }

    private Object at(Object[][][] values, Spot s) {
        return values[s.sheet()][s.row()][s.column()];
    }

    private void keep() {
        undos.addLast(state);
        if (undos.size() > 8) {
            undos.removeFirst();
        }
        redos.clear();
        state = state.same();
    }

    private int settle() {
        if (isHeld) {
            return 0;
        }
        Object[][][] now = reckoned(state);
        int changed = 0;
        for (Spot s : state.formulas()) {
            if (!java.util.Objects.equals(at(now, s), at(shown, s))) {
                changed++;
            }
        }
        shown = now;
        return changed;
    }

    // ---- checks

    private static Spot spot(int sheet, int cell) {
        if (sheet < 0 || sheet > 1 || cell < 0 || cell > 59) {
            throw new IndexOutOfBoundsException();
        }
        return new Spot(sheet, cell / 6, cell % 6);
    }

    private static void line(int sheet, boolean isRow, int at) {
        if (sheet < 0 || sheet > 1 || at < 0 || at > (isRow ? 9 : 5)) {
            throw new IndexOutOfBoundsException();
        }
    }

    private static void argument(boolean isGood) {
        if (!isGood) {
            throw new IllegalArgumentException();
        }
    }

    private static void state(boolean isGood) {
        if (!isGood) {
            throw new IllegalStateException();
        }
    }

    // ---- what is done

    int number(int sheet, int cell, int quarters) {
        Spot s = spot(sheet, cell);
        argument(quarters >= -100000 && quarters <= 100000);
        state(!state.isLocked(s));
        keep();
        state.put(s, numberHeld(quarters));
        return settle();
    }

    private static Held numberHeld(int quarters) {
        Held h = new Held();
        h.quarters = quarters;
        return h;
    }

    int formula(int sheet, int cell, int function, int one, int two, int three) {
        Spot s = spot(sheet, cell);
        argument(function >= 0 && function <= 15);
        List<Integer> codes = new ArrayList<>();
        codes.add(one);
        if (function < 9 || one < 480) {
            codes.add(two);
        }
        if (function == 8 || function == 15) {
            codes.add(three);
        }
        for (int code : codes) {
            argument(code >= -1000 && code <= 482);
        }
        if (function >= 9 && one < 480) {
            argument(one >= 0 && two >= 0 && two < 480 && one / 60 % 2 == two / 60 % 2);
        }
        state(!state.isLocked(s));
        keep();
        Held h = new Held();
        h.isFormula = true;
        h.function = function;
        for (int code : codes) {
            h.operands.add(Operand.of(code));
        }
        state.put(s, h);
        settle();
        return isHeld ? -1 : at(shown, s) instanceof Integer e ? e : 0;
    }

    boolean clear(int sheet, int cell) {
        Spot s = spot(sheet, cell);
        state(!state.isLocked(s));
        keep();
        boolean was = state.at(s) != null;
        state.put(s, null);
        settle();
        return was;
    }

    private void copyTo(Spot s, Spot t) {
        Held h = state.at(s);
        if (h == null) {
            state.put(t, null);
            return;
        }
        h = h.same();
        for (Operand o : h.operands) {
            if (o.isReference()) {
                int column = o.spot.column() + (o.isColumnFixed ? 0 : t.column() - s.column());
                int row = o.spot.row() + (o.isRowFixed ? 0 : t.row() - s.row());
                if (column < 0 || column > 5 || row < 0 || row > 9) {
                    o.lose();
                } else {
                    o.spot = new Spot(o.spot.sheet(), row, column);
                }
            }
        }
        state.put(t, h);
    }

    int copy(int sheet, int cell, int other, int to) {
        Spot s = spot(sheet, cell);
        Spot t = spot(other, to);
        state(!state.isLocked(t));
        keep();
        copyTo(s, t);
        settle();
        int gone = 0;
        if (state.at(t) != null) {
            for (Operand o : state.at(t).operands) {
                gone += o.isGone ? 1 : 0;
            }
        }
        return gone;
    }

    int fill(int sheet, int cell, int to) {
        Spot s = spot(sheet, cell);
        List<Spot> all = between(s, spot(sheet, to));
        all.remove(s);
        for (Spot t : all) {
            state(!state.isLocked(t));
        }
        keep();
        for (Spot t : all) {
            copyTo(s, t);
        }
        settle();
        return all.size();
    }

    int move(int sheet, int cell, int other, int to) {
        Spot s = spot(sheet, cell);
        Spot t = spot(other, to);
        state(!state.isLocked(s) && !state.isLocked(t));
        keep();
        int count = 0;
        if (!s.equals(t)) {
            state.put(t, state.at(s));
            state.put(s, null);
            for (Spot f : state.formulas()) {
                for (Operand o : state.at(f).operands) {
                    if (o.isReference() && o.spot.equals(t)) {
                        o.lose();
                    } else if (o.isReference() && o.spot.equals(s)) {
                        o.spot = t;
                        count++;
                    }
                }
            }
            for (int n = 0; n < 3; n++) {
                Spot[] named = state.names[n];
                if (named == null) {
                    continue;
                }
                if (named[0].equals(t) || named[1].equals(t)) {
                    state.names[n] = null;
                    continue;
                }
                Spot a = named[0].equals(s) ? t : named[0];
                Spot b = named[1].equals(s) ? t : named[1];
                state.names[n] = a.sheet() == b.sheet() ? new Spot[] {a, b} : null;
            }
        }
        settle();
        return count;
    }

    private static int lineOf(Spot s, boolean isRow) {
        return isRow ? s.row() : s.column();
    }

    private static Spot onLine(Spot s, boolean isRow, int line) {
        return isRow ? new Spot(s.sheet(), line, s.column()) : new Spot(s.sheet(), s.row(), line);
    }

    /** Where a cell that is named comes to; null if it is gone. */
    private static Spot referenceGoes(Spot s, int sheet, boolean isRow, int at, boolean isPut) {
        int line = lineOf(s, isRow);
        int last = isRow ? 9 : 5;
        if (s.sheet() != sheet || line < at) {
            return s;
        }
        if (isPut) {
            return line == last ? null : onLine(s, isRow, line + 1);
        }
        return line == at ? null : onLine(s, isRow, line - 1);
    }

    private static Spot cornerGoes(Spot s, Spot other, int sheet, boolean isRow, int at, boolean isPut) {
        int line = lineOf(s, isRow);
        if (s.sheet() == sheet && isPut && line == (isRow ? 9 : 5)) {
            return s;
        }
        if (s.sheet() == sheet && !isPut && line == at && lineOf(other, isRow) != at) {
            return line < lineOf(other, isRow) ? s : onLine(s, isRow, line - 1);
        }
        return referenceGoes(s, sheet, isRow, at, isPut);
    }

    private static int allGoAlong(State st, int sheet, boolean isRow, int at, boolean isPut) {
        int gone = 0;
        for (Spot f : st.formulas()) {
            Held h = st.at(f);
            List<Spot> then = new ArrayList<>();
            for (int k = 0; k < h.operands.size(); k++) {
                Operand o = h.operands.get(k);
                boolean isCorner = h.hasCorners() && k < 2;
                then.add(!o.isReference() ? null : isCorner
                    ? cornerGoes(o.spot, h.operands.get(1 - k).spot, sheet, isRow, at, isPut)
                    : referenceGoes(o.spot, sheet, isRow, at, isPut));
            }
            for (int k = 0; k < then.size(); k++) {
                Operand o = h.operands.get(k);
                if (o.isReference() && then.get(k) == null) {
                    o.lose();
                    gone++;
                } else if (o.isReference()) {
                    o.spot = then.get(k);
                }
            }
        }
        for (int n = 0; n < 3; n++) {
            Spot[] named = st.names[n];
            if (named != null) {
                Spot a = cornerGoes(named[0], named[1], sheet, isRow, at, isPut);
                Spot b = cornerGoes(named[1], named[0], sheet, isRow, at, isPut);
                st.names[n] = a == null || b == null ? null : new Spot[] {a, b};
            }
        }
        return gone;
    }

    int put(int sheet, boolean isRow, int at) {
        line(sheet, isRow, at);
        int last = isRow ? 9 : 5;
        for (Spot s : spots()) {
            state(!(s.sheet() == sheet && lineOf(s, isRow) == last && state.at(s) != null));
        }
        keep();
        allGoAlong(state, sheet, isRow, at, true);
        State old = state.same();
        int count = 0;
        for (Spot s : spots()) {
            int line = lineOf(s, isRow);
            if (s.sheet() != sheet || line < at) {
                continue;
            }
            if (old.at(s) != null) {
                count++;
            }
            bring(old, line == at ? null : onLine(s, isRow, line - 1), s, isRow);
        }
        settle();
        return count;
    }

    private void bring(State old, Spot from, Spot to, boolean isRow) {
        bringInto(state, old, from, to, isRow);
    }

    private static void bringInto(State st, State old, Spot from, Spot to, boolean isRow) {
        st.put(to, from == null ? null : old.at(from));
        st.digits[to.sheet()][to.row()][to.column()] =
            from == null ? 2 : old.digits[from.sheet()][from.row()][from.column()];
        st.locked[to.sheet()][to.row()][to.column()] = from != null && old.isLocked(from);
        if (isRow) {
            st.hidden[to.sheet()][to.row()] = from != null && old.hidden[from.sheet()][from.row()];
        }
    }

    private static int takeFrom(State st, int sheet, boolean isRow, int at) {
        for (Spot s : spots()) {
            if (s.sheet() == sheet && lineOf(s, isRow) == at) {
                st.put(s, null);
            }
        }
        int gone = allGoAlong(st, sheet, isRow, at, false);
        State old = st.same();
        int last = isRow ? 9 : 5;
        for (Spot s : spots()) {
            int line = lineOf(s, isRow);
            if (s.sheet() == sheet && line >= at) {
                bringInto(st, old, line == last ? null : onLine(s, isRow, line + 1), s, isRow);
            }
        }
        return gone;
    }

    int take(int sheet, boolean isRow, int at) {
        line(sheet, isRow, at);
        for (Spot s : spots()) {
            state(!(s.sheet() == sheet && lineOf(s, isRow) == at && state.isLocked(s)));
        }
        keep();
        int gone = takeFrom(state, sheet, isRow, at);
        settle();
        return gone;
    }

    int sort(int sheet, int from, int to, int column, boolean isDown) {
        line(sheet, true, from);
        line(sheet, true, to);
        line(sheet, false, column);
        argument(to >= from);
        for (Spot s : spots()) {
            state(!(s.sheet() == sheet && s.row() >= from && s.row() <= to && state.isLocked(s)));
        }
        keep();
        List<Integer> rows = new ArrayList<>();
        for (int row = from; row <= to; row++) {
            rows.add(row);
        }
        rows.sort((a, b) -> {
            Object x = shown[sheet][a][column];
            Object y = shown[sheet][b][column];
            if (x instanceof Double p && y instanceof Double q) {
                return isDown ? Double.compare(q, p) : Double.compare(p, q);
            }
            int left = x == null ? 2 : x instanceof Integer ? 1 : 0;
            int right = y == null ? 2 : y instanceof Integer ? 1 : 0;
            return left == 1 && right == 1 ? (Integer) x - (Integer) y : left - right;
        });
        State old = state.same();
        int moved = 0;
        for (int k = 0; k < rows.size(); k++) {
            int was = rows.get(k);
            int is = from + k;
            moved += was == is ? 0 : 1;
            for (int c = 0; c < 6; c++) {
                Held h = old.held[sheet][was][c];
                state.held[sheet][is][c] = h;
                if (h != null) {
                    for (Operand o : h.operands) {
                        if (o.isReference() && !o.isRowFixed && o.spot.sheet() == sheet && o.spot.row() == was) {
                            o.spot = new Spot(sheet, is, o.spot.column());
                        }
                    }
                }
            }
        }
        settle();
        return moved;
    }

    int filter(int sheet, int column, int quarters) {
        line(sheet, false, column);
        keep();
        int count = 0;
        for (int row = 0; row < 10; row++) {
            Object v = shown[sheet][row][column];
            state.hidden[sheet][row] = !(v instanceof Double d && !(d < quarters / 4.0));
            count += state.hidden[sheet][row] ? 1 : 0;
        }
        settle();
        return count;
    }

    boolean hide(int sheet, int row, boolean is) {
        line(sheet, true, row);
        keep();
        boolean was = state.hidden[sheet][row];
        state.hidden[sheet][row] = is;
        settle();
        return was;
    }

    private static void name(int name) {
        if (name < 0 || name > 2) {
            throw new IndexOutOfBoundsException();
        }
    }

    private int formulasWithName(int name) {
        int count = 0;
        for (Spot s : state.formulas()) {
            count += state.at(s).operands.stream().anyMatch(o -> o.name == name) ? 1 : 0;
        }
        return count;
    }

    int name(int name, int sheet, int one, int two) {
        name(name);
        Spot a = spot(sheet, one);
        Spot b = spot(sheet, two);
        keep();
        state.names[name] = new Spot[] {a, b};
        settle();
        return formulasWithName(name);
    }

    int digits(int sheet, int cell, int digits) {
        Spot s = spot(sheet, cell);
        argument(digits >= 0 && digits <= 2);
        keep();
        int was = state.digits[s.sheet()][s.row()][s.column()];
        state.digits[s.sheet()][s.row()][s.column()] = digits;
        return was;
    }

    boolean lock(int sheet, int cell, boolean is) {
        Spot s = spot(sheet, cell);
        keep();
        boolean was = state.isLocked(s);
        state.locked[s.sheet()][s.row()][s.column()] = is;
        return was;
    }

    boolean hold(boolean is) {
        boolean was = isHeld;
        isHeld = is;
        settle();
        return was;
    }

    int reckon() {
        int count = stale(0) + stale(1);
        shown = reckoned(state);
        return count;
    }

    private int stale(int sheet) {
        Object[][][] now = reckoned(state);
        int count = 0;
        for (Spot s : spots()) {
            count += s.sheet() == sheet && !java.util.Objects.equals(at(now, s), at(shown, s)) ? 1 : 0;
        }
        return count;
    }

    int undo() {
        state(!undos.isEmpty());
        redos.addLast(state);
        state = undos.removeLast();
        settle();
        return undos.size();
    }

    int redo() {
        state(!redos.isEmpty());
        undos.addLast(state);
        state = redos.removeLast();
        settle();
        return redos.size();
    }

    int ring() {
        return ++rings;
    }

    // ---- what is asked

    private static double asDouble(Object value) {
        return value instanceof Double d ? d : 0.0;
    }

    double value(int sheet, int cell) {
        return asDouble(at(shown, spot(sheet, cell)));
    }

    int ofCell(int sheet, int cell, int what) {
        Spot s = spot(sheet, cell);
        argument(what >= 0 && what <= 9);
        Held h = state.at(s);
        switch (what) {
            case 0: return h == null ? 0 : h.isFormula ? 2 : 1;
            case 1: return at(shown, s) instanceof Integer e ? e : 0;
            case 2: return h != null && h.isFormula ? h.function : -1;
            case 3: return state.digits[s.sheet()][s.row()][s.column()];
            case 4: return state.isLocked(s) ? 1 : 0;
            case 5: return java.util.Objects.equals(at(shown, s), at(reckoned(state), s)) ? 0 : 1;
            case 6: return needs(state, s).size();
            case 7: return reach(state, s).size();
            case 8: return (int) state.formulas().stream().filter(f -> needs(state, f).contains(s)).count();
            default: return depth(state, s);
        }
    }

    String words(int sheet, int cell) {
        Held h = state.at(spot(sheet, cell));
        if (h == null) {
            return "";
        }
        if (!h.isFormula) {
            return h.quarters + "q";
        }
        String said = "=" + WORDS[h.function] + "(";
        for (int k = 0; k < h.operands.size(); k++) {
            String between = h.function >= 9 && h.operands.get(0).name < 0 && k == 1 ? ":" : ",";
            said += (k == 0 ? "" : between) + operandWords(h.operands.get(k), sheet);
        }
        return said + ")";
    }

    private static String operandWords(Operand o, int own) {
        if (o.isNumber) {
            return o.quarters + "q";
        }
        if (o.name >= 0) {
            return "N" + o.name;
        }
        if (o.isGone) {
            return "?";
        }
        return (o.spot.sheet() == own ? "" : "S" + o.spot.sheet() + "!") + (o.isColumnFixed ? "$" : "")
            + "ABCDEF".charAt(o.spot.column()) + (o.isRowFixed ? "$" : "") + (o.spot.row() + 1);
    }

    String text(int sheet, int cell) {
        Spot s = spot(sheet, cell);
        Object v = at(shown, s);
        if (!(v instanceof Double d)) {
            return v == null ? "" : "!" + v;
        }
        int digits = state.digits[s.sheet()][s.row()][s.column()];
        long whole = (long) Math.rint(Math.pow(10, digits) * d);
        if (Math.abs(whole) >= 1000000) {
            return "#";
        }
        return java.math.BigDecimal.valueOf(whole, digits).toPlainString();
    }

    int ofSheet(int sheet, int what) {
        line(sheet, true, 0);
        argument(what >= 0 && what <= 7);
        int[] answers = new int[8];
        answers[3] = stale(sheet);
        answers[6] = -1;
        answers[7] = -1;
        for (Spot s : spots()) {
            if (s.sheet() != sheet) {
                continue;
            }
            if (state.at(s) != null) {
                answers[0]++;
                answers[1] += state.at(s).isFormula ? 1 : 0;
                answers[6] = Math.max(answers[6], s.row());
                answers[7] = Math.max(answers[7], s.column());
            }
            answers[2] += at(shown, s) instanceof Integer ? 1 : 0;
            answers[4] += state.isLocked(s) ? 1 : 0;
            answers[5] |= state.hidden[sheet][s.row()] ? 1 << s.row() : 0;
        }
        return answers[what];
    }

    int ofName(int name, int what) {
        name(name);
        argument(what >= 0 && what <= 4);
        Spot[] named = state.names[name];
        if (what == 4) {
            return formulasWithName(name);
        }
        if (named == null) {
            return what == 3 ? 0 : -1;
        }
        return what == 0 ? named[0].sheet() : what == 1 ? named[0].cell() : what == 2 ? named[1].cell()
            : between(named[0], named[1]).size();
    }

    int many(int what) {
        argument(what >= 0 && what <= 7);
        int gone = 0;
        int circles = 0;
        int deepest = 0;
        for (Spot s : state.formulas()) {
            gone += (int) state.at(s).operands.stream().filter(o -> o.isGone).count();
            if (what == 6) {
                circles += isCircle(state, s) ? 1 : 0;
            }
            if (what == 7) {
                deepest = Math.max(deepest, depth(state, s));
            }
        }
        int[] answers = {state.formulas().size(), gone, undos.size(), redos.size(), isHeld ? 1 : 0, rings, circles,
            deepest};
        return answers[what];
    }

    double group(int sheet, int key, int column, int nth, int what) {
        line(sheet, false, key);
        line(sheet, false, column);
        argument(nth >= 0 && nth <= 9 && what >= 0 && what <= 2);
        TreeSet<Double> keys = new TreeSet<>();
        for (int row = 0; row < 10; row++) {
            if (!state.hidden[sheet][row] && shown[sheet][row][key] instanceof Double d
                && shown[sheet][row][column] instanceof Double) {
                keys.add(d);
            }
        }
        if (nth >= keys.size()) {
            return 0.0;
        }
        double wanted = new ArrayList<>(keys).get(nth);
        double sum = 0.0;
        int rows = 0;
        for (int row = 0; row < 10; row++) {
            if (!state.hidden[sheet][row] && shown[sheet][row][key] instanceof Double d && d == wanted
                && shown[sheet][row][column] instanceof Double e) {
                sum += e;
                rows++;
            }
        }
        return what == 0 ? wanted : what == 1 ? sum : rows;
    }

    // ---- what would be

    private Object wouldBe(Spot s, int quarters, Spot t) {
        State tried = state.same();
        tried.put(s, numberHeld(quarters));
        return at(reckoned(tried), t);
    }

    double would(int sheet, int cell, int quarters, int other, int to) {
        Spot s = spot(sheet, cell);
        Spot t = spot(other, to);
        argument(quarters >= -100000 && quarters <= 100000);
        return asDouble(wouldBe(s, quarters, t));
    }

    int goal(int sheet, int cell, int other, int to, int quarters) {
        Spot s = spot(sheet, cell);
        Spot t = spot(other, to);
        argument(quarters >= -100000 && quarters <= 100000);
        int best = -1001;
        double least = 0.0;
        for (int tried = -40; tried <= 40; tried++) {
            if (wouldBe(s, tried, t) instanceof Double d) {
                double away = Math.abs(d - quarters / 4.0);
                boolean isBetter = best == -1001 || away < least
                    || away == least && (Math.abs(tried) < Math.abs(best)
                        || Math.abs(tried) == Math.abs(best) && tried > best);
                if (isBetter) {
                    best = tried;
                    least = away;
                }
            }
        }
        return best;
    }

    int breaks(int sheet, boolean isRow, int at) {
        line(sheet, isRow, at);
        State then = state.same();
        takeFrom(then, sheet, isRow, at);
        Object[][][] before = reckoned(state);
        Object[][][] after = reckoned(then);
        int count = 0;
        for (Spot s : state.formulas()) {
            int line = lineOf(s, isRow);
            if (s.sheet() == sheet && line == at) {
                continue;
            }
            Spot t = s.sheet() == sheet && line > at ? onLine(s, isRow, line - 1) : s;
            count += at(before, s) instanceof Double && at(after, t) instanceof Integer ? 1 : 0;
        }
        return count;
    }

    boolean isSound() {
        return stale(0) + stale(1) == 0 && many(1) == 0 && many(6) == 0;
    }

    long digest() {
        long d = 58323;
        for (int what = 0; what < 8; what++) {
            d = d * 31 + many(what);
        }
        for (int name = 0; name < 3; name++) {
            for (int what = 0; what < 5; what++) {
                d = d * 31 + ofName(name, what);
            }
        }
        for (int sheet = 0; sheet < 2; sheet++) {
            for (int what = 0; what < 8; what++) {
                d = d * 31 + ofSheet(sheet, what);
            }
            for (int cell = 0; cell < 60; cell++) {
                if (state.at(spot(sheet, cell)) == null) {
                    continue;
                }
                d = d * 31 + cell;
                for (int what = 0; what < 10; what++) {
                    d = d * 31 + ofCell(sheet, cell, what);
                }
                d = d * 31 + (long) (64 * value(sheet, cell));
                d = d * 31 + words(sheet, cell).length();
                d = d * 31 + text(sheet, cell).length();
            }
        }
        return d * 31 + (isSound() ? 1 : 0);
    }
}
