import java.io.IOException;
import java.nio.file.Files;
import java.nio.file.Path;

/** What the tests share: answers held against what is due, and short names for cells and codes. */
final class Check {
    static final Class<?> INDEX = IndexOutOfBoundsException.class;
    static final Class<?> ARGUMENT = IllegalArgumentException.class;
    static final Class<?> STATE = IllegalStateException.class;

    interface Call {
        Object now();
    }

    private final String test;
    private String heading = "";
    private String document = "";
    private int seen;
    private int wrong;

    Check(String test) {
        this.test = test;
    }

    void promise(int number) {
        heading = "promise " + number;
    }

    /** What follows holds this sentence (or part of one), which must stand in the document word by word. */
    void says(String sentence) {
        heading = "\"" + sentence + "\"";
        is(document().contains(sentence), true);
    }

    /** Whether the part of the document under a promise's heading has these words. */
    boolean promises(int number, String words) {
        String all = document();
        int start = all.indexOf("## Promise " + number + ": ");
        int end = all.indexOf("## ", start + 3);
        return all.substring(start, end).contains(words);
    }

    private String document() {
        if (document.isEmpty()) {
            document = readDocument();
        }
        return document;
    }

    private static String readDocument() {
        try {
            return Files.readString(Path.of("../shared/DOC.md")).replaceAll("\\s+", " ");
        } catch (IOException e) {
            return "no document";
        }
    }

    void is(Object got, Object want) {
        seen++;
        if (!got.equals(want)) {
            say("answered " + brief(got) + ", due is " + brief(want));
        }
    }

    private static String brief(Object told) {
        String words = String.valueOf(told);
        return words.length() < 200 ? words : words.substring(0, 200) + "..";
    }

    /** The call must throw just that, and leave the object as it was. */
    void fails(TabulaWorks x, Class<?> kind, Call call) {
        seen++;
        String before = all(x);
        Object got;
        try {
            got = call.now();
        } catch (RuntimeException e) {
            got = e.getClass();
        }
        if (got != kind) {
            say("answered " + got + ", due is " + kind);
        }
        if (!all(x).equals(before)) {
            say("a call that throws changed something");
        }
    }

    /** All that can be asked of an object (the kept ones in their number alone). */
    static String all(TabulaWorks x) {
        StringBuilder all = new StringBuilder(kept(x));
        for (int what = 0; what < 8; what++) {
            all.append(x.many(what)).append(' ');
        }
        for (int sheet = 0; sheet < 2; sheet++) {
            for (int cell = 0; cell < 60; cell++) {
                for (int what = 5; what < 10; what++) {
                    all.append(x.ofCell(sheet, cell, what)).append(' ');
                }
            }
        }
        return all.toString();
    }

    /** All that undoing brings back: what cells hold and show, names, hidden rows, digits and locks. */
    static String kept(TabulaWorks x) {
        StringBuilder all = new StringBuilder();
        for (int sheet = 0; sheet < 2; sheet++) {
            for (int cell = 0; cell < 60; cell++) {
                all.append(x.words(sheet, cell)).append(' ').append(x.text(sheet, cell)).append(' ');
                all.append(x.value(sheet, cell)).append(' ').append(x.ofCell(sheet, cell, 1)).append(' ');
                all.append(x.ofCell(sheet, cell, 3)).append(x.ofCell(sheet, cell, 4)).append('\n');
            }
            all.append(x.ofSheet(sheet, 5)).append('\n');
        }
        for (int name = 0; name < 3; name++) {
            all.append(named(x, name)).append('\n');
        }
        return all.toString();
    }

    /** How many calls there are that are kept to be undone. */
    static final int CHANGES = 14;

    /** Something of all that can be held, on both sheets: each of the changes below makes it another one. */
    static TabulaWorks sample() {
        TabulaWorks x = new TabulaWorks();
        put(x, "A1", 4);
        put(x, "A2", 8);
        x.name(0, 0, 0, at("A2"));
        tell(x, "B1", "=SUM(A1:A2)");
        tell(x, "B2", "=BY(A1,A2)");
        tell(x, "C3", "=CHOICE(N0,$A$2,S1!A2)");
        tell(x, 1, "A2", "=SHOWN(A1:B2)");
        tell(x, 1, "B2", "=PLUS(S1!A2,N1)");
        x.digits(0, at("A2"), 1);
        x.hide(1, 4, true);
        x.lock(1, at("F10"), true);
        return x;
    }

    /** The calls that are kept, in the order of the document: one of each, let in the sample. */
    static void change(TabulaWorks x, int nth) {
        switch (nth) {
            case 0: x.number(0, 0, 40); break;
            case 1: x.formula(0, 0, 0, 6, -499, 0); break;
            case 2: x.clear(0, 6); break;
            case 3: x.copy(0, 6, 1, 0); break;
            case 4: x.fill(0, 7, 20); break;
            case 5: x.move(0, 6, 0, 8); break;
            case 6: x.put(0, false, 0); break;
            case 7: x.take(0, true, 1); break;
            case 8: x.sort(0, 0, 1, 0, true); break;
            case 9: x.filter(0, 0, 5); break;
            case 10: x.hide(0, 0, true); break;
            case 11: x.name(0, 1, 6, 6); break;
            case 12: x.digits(0, 0, 0); break;
            default: x.lock(0, 0, true); break;
        }
    }

    /** The sheet and both corners that a name names. */
    static String named(TabulaWorks x, int name) {
        return x.ofName(name, 0) + " " + x.ofName(name, 1) + " " + x.ofName(name, 2);
    }

    private void say(String what) {
        wrong++;
        StackTraceElement at = null;
        for (StackTraceElement e : new Throwable().getStackTrace()) {
            if (at == null && e.getClassName().equals(test)) {
                at = e;
            }
        }
        System.out.println(test + ", " + heading + ", line " + (at == null ? 0 : at.getLineNumber()) + ": " + what);
    }

    void end() {
        System.out.println(test + ": " + (seen - wrong) + " of " + seen + " as due");
        if (wrong != 0) {
            System.exit(1);
        }
    }

    /** The cell of a name such as "B3". */
    static int at(String name) {
        return (Integer.parseInt(name.substring(1)) - 1) * 6 + name.charAt(0) - 'A';
    }

    /** The code of a reference such as "S1!$B3" (sheet 0 if it names none), of "N2", or of "7q". */
    static int code(String words) {
        if (words.endsWith("q")) {
            return Integer.parseInt(words.substring(0, words.length() - 1)) - 500;
        }
        if (words.startsWith("N")) {
            return 480 + words.charAt(1) - '0';
        }
        int sheet = words.startsWith("S1!") ? 1 : 0;
        String name = words.substring(words.indexOf('!') + 1);
        int column = name.startsWith("$") ? 1 : 0;
        int row = name.lastIndexOf('$') > 0 ? 1 : 0;
        return at(name.replace("$", "")) + 60 * sheet + 120 * column + 240 * row;
    }

    /** Tells a formula in words as words() gives them, such as "=SUM(A1:B3)". */
    static int tell(TabulaWorks x, int sheet, String cell, String words) {
        int open = words.indexOf('(');
        String word = words.substring(1, open);
        String[] operands = words.substring(open + 1, words.length() - 1).split("[:,]");
        int function = java.util.Arrays.asList(PlainModel.WORDS).indexOf(word);
        int[] codes = {9999, 9999, 9999};
        for (int k = 0; k < operands.length; k++) {
            // FIND of a name has no TWO: its second word is THREE.
            boolean isThree = function == 15 && operands.length == 2 && k == 1;
            codes[isThree ? 2 : k] = code(operands[k]);
        }
        return x.formula(sheet, at(cell), function, codes[0], codes[1], codes[2]);
    }

    static int tell(TabulaWorks x, String cell, String words) {
        return tell(x, 0, cell, words);
    }

    /** Tells a formula one column farther and copies it here: its references to column A are gone then. */
    static int tellGone(TabulaWorks x, String cell, String words) {
        String farther = (char) (cell.charAt(0) + 1) + cell.substring(1);
        tell(x, farther, words);
        int gone = x.copy(0, at(farther), 0, at(cell));
        x.clear(0, at(farther));
        return gone;
    }

    static int put(TabulaWorks x, String cell, int quarters) {
        return x.number(0, at(cell), quarters);
    }

    static String words(TabulaWorks x, String cell) {
        return x.words(0, at(cell));
    }

    static String text(TabulaWorks x, String cell) {
        return x.text(0, at(cell));
    }

    static double value(TabulaWorks x, String cell) {
        return x.value(0, at(cell));
    }

    static int error(TabulaWorks x, String cell) {
        return x.ofCell(0, at(cell), 1);
    }

    static int ask(TabulaWorks x, String cell, int what) {
        return x.ofCell(0, at(cell), what);
    }
}
