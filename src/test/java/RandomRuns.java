import java.util.Random;

/**
 * Runs of random calls (the seeds are fixed) on the class and on PlainModel side by side: every
 * answer and every exception must be the same, and so must all that can be asked every few calls.
 */
public final class RandomRuns {
    private static final String[] CALLS = {"number", "formula", "clear", "copy", "fill", "move", "put", "take", "sort",
        "filter", "hide", "name", "digits", "lock", "hold", "reckon", "undo", "redo", "ring", "value", "ofCell",
        "words", "text", "ofSheet", "ofName", "many", "group", "would", "goal", "breaks", "isSound", "digest"};
    private static final int[] WEIGHTS = {10, 22, 3, 6, 4, 7, 4, 4, 5, 2, 2, 4, 2, 1, 1, 2, 5, 4, 1, 2, 3, 2, 2, 1, 1,
        1, 3, 2, 1, 3, 1, 2};

    private final Random random;
    private final int width;
    private final int height;
    private final boolean isWild;
    private final boolean isGreat;
    private final boolean isPlain;
    private String last = "";
    private int[] lastFormula = {0, 0, 0, 0, 0, 0};

    private RandomRuns(long seed) {
        random = new Random(seed);
        width = 2 + random.nextInt(5);
        height = 2 + random.nextInt(9);
        isWild = seed % 5 == 0;
        isGreat = seed % 3 == 0;
        isPlain = seed % 4 == 1;
    }

    private int bad(int good, int low, int high) {
        if (!isWild || random.nextInt(12) != 0) {
            return good;
        }
        int[] others = {low - 1, high + 1, Integer.MIN_VALUE, Integer.MAX_VALUE, -1, low, high};
        return others[random.nextInt(others.length)];
    }

    private int sheet() {
        return bad(random.nextInt(2), 0, 1);
    }

    private int cell() {
        boolean isFar = random.nextInt(8) == 0;
        int row = isFar ? random.nextInt(10) : random.nextInt(height);
        int column = isFar ? random.nextInt(6) : random.nextInt(width);
        return bad(row * 6 + column, 0, 59);
    }

    private int row() {
        return bad(random.nextInt(3) == 0 ? random.nextInt(10) : random.nextInt(height), 0, 9);
    }

    private int column() {
        return bad(random.nextInt(3) == 0 ? random.nextInt(6) : random.nextInt(width), 0, 5);
    }

    private int quarters() {
        int kind = random.nextInt(10);
        int told = kind == 0 || isGreat && kind < 6 ? random.nextInt(200001) - 100000 : kind < 4 ? 0 : random.nextInt(41) - 20;
        return bad(told, -100000, 100000);
    }

    private int reference(int sheet) {
        int fixed = random.nextInt(3) == 0 ? random.nextInt(4) : 0;
        int row = random.nextInt(8) == 0 ? random.nextInt(10) : random.nextInt(height);
        int column = random.nextInt(8) == 0 ? random.nextInt(6) : random.nextInt(width);
        return row * 6 + column + 60 * sheet + 120 * fixed;
    }

    private int operand(int sheet) {
        int kind = random.nextInt(10);
        int code = kind < 6 ? reference(random.nextInt(4) == 0 ? 1 - sheet : sheet)
            : kind < 9 ? -500 + (random.nextInt(3) == 0 ? random.nextInt(1000) - 500 : random.nextInt(17) - 8)
            : 480 + random.nextInt(3);
        return bad(code, -1000, 482);
    }

    private int[] arguments(String call) {
        switch (call) {
            case "number":
                return new int[] {sheet(), cell(), quarters()};
            case "formula":
                return formulaArguments();
            case "clear": case "value": case "words": case "text":
                return new int[] {sheet(), cell()};
            case "copy": case "move":
                return new int[] {sheet(), cell(), sheet(), cell()};
            case "fill":
                return new int[] {sheet(), cell(), cell()};
            case "put": case "take": case "breaks":
                boolean isRow = random.nextBoolean();
                return new int[] {sheet(), isRow ? 1 : 0, isRow ? row() : column()};
            case "sort":
                int from = row();
                int to = random.nextInt(10) == 0 ? row() : Math.max(from, row());
                return new int[] {sheet(), from, to, column(), random.nextInt(2)};
            case "filter":
                return new int[] {sheet(), column(), random.nextInt(30) == 0 ? random.nextInt() : quarters()};
            case "hide":
                return new int[] {sheet(), row(), random.nextInt(2)};
            case "name":
                return new int[] {bad(random.nextInt(3), 0, 2), sheet(), cell(), cell()};
            case "digits":
                return new int[] {sheet(), cell(), bad(random.nextInt(3), 0, 2)};
            case "lock":
                return new int[] {sheet(), cell(), random.nextInt(3) == 0 ? 1 : 0};
            case "hold":
                return new int[] {random.nextInt(3) == 0 ? 1 : 0};
            case "ofCell":
                return new int[] {sheet(), cell(), bad(random.nextInt(10), 0, 9)};
            case "ofSheet":
                return new int[] {sheet(), bad(random.nextInt(8), 0, 7)};
            case "ofName":
                return new int[] {bad(random.nextInt(3), 0, 2), bad(random.nextInt(5), 0, 4)};
            case "many":
                return new int[] {bad(random.nextInt(8), 0, 7)};
            case "group":
                return new int[] {sheet(), column(), column(), bad(random.nextInt(4), 0, 9), bad(random.nextInt(3), 0, 2)};
            case "would":
                int[] there = mostlyOfLastFormula();
                return new int[] {there[0], there[1], quarters(), there[2], there[3]};
            case "goal":
                int[] cells = mostlyOfLastFormula();
                return new int[] {cells[0], cells[1], cells[2], cells[3], quarters()};
            default:
                return new int[0];
        }
    }

    /** A cell that the formula that was told last may need, and that formula's own. */
    private int[] mostlyOfLastFormula() {
        int code = lastFormula[3 + random.nextInt(3)];
        if (code < 0 || code >= 480 || random.nextInt(4) == 0) {
            return new int[] {sheet(), cell(), sheet(), cell()};
        }
        return new int[] {code / 60 % 2, code % 60, lastFormula[0], lastFormula[1]};
    }

    private int[] formulaArguments() {
        lastFormula = anyFormula();
        return lastFormula;
    }

    private int[] anyFormula() {
        int sheet = random.nextInt(2);
        int function = bad(isGreat && random.nextInt(3) == 0 ? 2 : random.nextInt(16), 0, 15);
        int one = operand(sheet);
        int two = operand(sheet);
        if (function >= 9 && random.nextInt(20) != 0) {
            int of = random.nextInt(5) == 0 ? 1 - sheet : sheet;
            one = random.nextInt(5) == 0 ? 480 + random.nextInt(3) : reference(of);
            two = random.nextInt(20) == 0 ? operand(sheet) : reference(of);
        }
        return new int[] {bad(sheet, 0, 1), cell(), function, one, two, operand(sheet)};
    }

    private String nextCall() {
        boolean isBack = last.equals("undo") || last.equals("redo");
        last = isBack && random.nextInt(2) == 0 ? random.nextBoolean() ? "undo" : "redo" : anyCall();
        if (isPlain && last.equals("formula") && random.nextInt(3) != 0) {
            last = "number";
        }
        if (isPlain && last.equals("copy")) {
            last = "group";
        }
        return last;
    }

    private String anyCall() {
        int sum = 0;
        for (int weight : WEIGHTS) {
            sum += weight;
        }
        int at = random.nextInt(sum);
        for (int k = 0; k < CALLS.length; k++) {
            at -= WEIGHTS[k];
            if (at < 0) {
                return CALLS[k];
            }
        }
        return "digest";
    }

    private static boolean isSame(String call, int[] a, Object got, Object want, long seed, int nth) {
        if (got.equals(want)) {
            return true;
        }
        System.out.println("seed " + seed + ", call " + nth + ": " + call + java.util.Arrays.toString(a) + " answered "
            + got + ", due is " + want);
        return false;
    }

    /** All values to the last bit (digest cuts them), and all words. */
    private static boolean isAllSame(TabulaWorks x, PlainModel y, long seed, int nth) {
        boolean isSame = true;
        for (int sheet = 0; sheet < 2; sheet++) {
            for (int cell = 0; cell < 60; cell++) {
                int[] a = {sheet, cell};
                for (String call : new String[] {"value", "words", "text"}) {
                    isSame &= isSame(call, a, ByName.call(x, call, a), ByName.call(y, call, a), seed, nth);
                }
            }
        }
        return isSame;
    }

    private static boolean run(long seed, int calls) {
        RandomRuns runs = new RandomRuns(seed);
        TabulaWorks x = new TabulaWorks();
        PlainModel y = new PlainModel();
        for (int nth = 0; nth < calls; nth++) {
            String call = runs.nextCall();
            int[] a = runs.arguments(call);
            if (!isSame(call, a, ByName.call(x, call, a), ByName.call(y, call, a), seed, nth)) {
                return false;
            }
            boolean isLast = nth % 40 == 39 || nth == calls - 1;
            if (isLast && !(isAllSame(x, y, seed, nth) && isSame("digest", a, x.digest(), y.digest(), seed, nth))) {
                return false;
            }
        }
        return true;
    }

    public static void main(String[] args) {
        int runs = args.length > 0 ? Integer.parseInt(args[0]) : 300;
        long first = args.length > 1 ? Long.parseLong(args[1]) : 1;
        int wrong = 0;
        for (long seed = first; seed < first + runs; seed++) {
            if (!run(seed, 400)) {
                wrong++;
            }
        }
        System.out.println(wrong == 0 ? runs + " random runs are as due" : wrong + " random runs are not as due");
        if (wrong != 0) {
            System.exit(1);
        }
    }
}
