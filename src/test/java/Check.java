/** What the tests share: answers held against what is due, and short names for cells and codes. */
final class Check {
    static final Class<?> INDEX = IndexOutOfBoundsException.class;
    static final Class<?> ARGUMENT = IllegalArgumentException.class;
    static final Class<?> STATE = IllegalStateException.class;

    interface Call {
        Object now();
    }

    private final String test;
    private int promise;
    private int seen;
    private int wrong;

    Check(String test) {
        this.test = test;
    }

    void promise(int number) {
        promise = number;
    }

    void is(Object got, Object want) {
        seen++;
        if (!got.equals(want)) {
            say("answered " + got + ", due is " + want);
        }
    }

    /** The call must throw just that, and leave the object as it was. */
    void fails(TabulaWorks x, Class<?> kind, Call call) {
        seen++;
        long before = x.digest();
        Object got;
        try {
            got = call.now();
        } catch (RuntimeException e) {
            got = e.getClass();
        }
        if (got != kind) {
            say("answered " + got + ", due is " + kind);
        }
        if (x.digest() != before) {
            say("a call that throws changed something");
        }
    }

    private void say(String what) {
        wrong++;
        StackTraceElement at = null;
        for (StackTraceElement e : new Throwable().getStackTrace()) {
            if (at == null && e.getClassName().equals(test)) {
                at = e;
            }
        }
        System.out.println(test + ", promise " + promise + ", line " + (at == null ? 0 : at.getLineNumber()) + ": " + what);
    }

    void end() {
        System.out.println(test + ": " + (seen - wrong) + " of " + seen + " as due");
        if (wrong != 0) {
            System.exit(1);
        }
    }

    /** The cell of a name such as "B3". */
    static int at(String name) {
        return (Integer.parseInt(name.substring(1)) - 1) * 6 + name.charAt(0) - 'A';
    }

    /** The code of a reference such as "S1!$B3" (sheet 0 if it names none), of "N2", or of "7q". */
    static int code(String words) {
        if (words.endsWith("q")) {
            return Integer.parseInt(words.substring(0, words.length() - 1)) - 500;
        }
        if (words.startsWith("N")) {
            return 480 + words.charAt(1) - '0';
        }
        int sheet = words.startsWith("S1!") ? 1 : 0;
        String name = words.substring(words.indexOf('!') + 1);
        int column = name.startsWith("$") ? 1 : 0;
        int row = name.lastIndexOf('$') > 0 ? 1 : 0;
        return at(name.replace("$", "")) + 60 * sheet + 120 * column + 240 * row;
    }

    /** Tells a formula in words as words() gives them, such as "=SUM(A1:B3)". */
    static int tell(TabulaWorks x, int sheet, String cell, String words) {
        int open = words.indexOf('(');
        String word = words.substring(1, open);
        String[] operands = words.substring(open + 1, words.length() - 1).split("[:,]");
        int function = java.util.Arrays.asList(PlainModel.WORDS).indexOf(word);
        int[] codes = {9999, 9999, 9999};
        for (int k = 0; k < operands.length; k++) {
            // FIND of a name has no TWO: its second word is THREE.
            boolean isThree = function == 15 && operands.length == 2 && k == 1;
            codes[isThree ? 2 : k] = code(operands[k]);
        }
        return x.formula(sheet, at(cell), function, codes[0], codes[1], codes[2]);
    }

    static int tell(TabulaWorks x, String cell, String words) {
        return tell(x, 0, cell, words);
    }

    static int put(TabulaWorks x, String cell, int quarters) {
        return x.number(0, at(cell), quarters);
    }

    static String words(TabulaWorks x, String cell) {
        return x.words(0, at(cell));
    }

    static String text(TabulaWorks x, String cell) {
        return x.text(0, at(cell));
    }

    static double value(TabulaWorks x, String cell) {
        return x.value(0, at(cell));
    }

    static int error(TabulaWorks x, String cell) {
        return x.ofCell(0, at(cell), 1);
    }

    static int ask(TabulaWorks x, String cell, int what) {
        return x.ofCell(0, at(cell), what);
    }
}
