/** Sections 3 and 4 of the document at their edges: copying, moving, sorting, rows and columns. */
public final class ChangeEdgesTest {
    private static final Check check = new Check("ChangeEdgesTest");
    private static final String LAST = "of the last ROW (COLUMN), as one is PUT IN, REFERENCES are GONE, but CORNERS stay there.";
    private static final String OTHERS = "(In FORMULAS: a CORNER whose other one is GONE, or on the other SHEET, "
        + "is a REFERENCE like others.)";

    private ChangeEdgesTest() {
    }

    public static void main(String[] args) {
        copies();
        copiesOfEmpty();
        goAlong();
        leaveSheet();
        leaveSheetAsCorners();
        staySame();
        fills();
        fillsAtEdges();
        moves();
        movesOfThoseThatNameIt();
        movesOverOthers();
        movesToItself();
        differentSheets();
        namesOnDifferentSheets();
        sortOrder();
        sortTies();
        sortByShown();
        sortOwnRow();
        sortNothingElse();
        puts();
        putsWhenLastIsHeld();
        takes();
        farther();
        nearer();
        lastOnes();
        lastCorners();
        takenReferences();
        takenCorners();
        bothTaken();
        cornersLikeOthers();
        hiddenGoAlong();
        newLines();
        filters();
        filtersAhead();
        check.end();
    }

    private static int copy(TabulaWorks x, String from, String to) {
        return x.copy(0, Check.at(from), 0, Check.at(to));
    }

    private static int move(TabulaWorks x, String from, String to) {
        return x.move(0, Check.at(from), 0, Check.at(to));
    }

    // ---- 3. Copying, moving, sorting

    private static void copies() {
        check.says("To COPY a CELL to another one: that gets what it holds.");
        TabulaWorks x = new TabulaWorks();
        Check.put(x, "A1", -100000);
        x.digits(0, 0, 0);
        x.lock(0, 0, true);
        check.is(copy(x, "A1", "F10"), 0);
        check.is(Check.words(x, "F10") + Check.words(x, "A1"), "-100000q-100000q");
        // What it holds alone: not its digits, nor its lock.
        check.is(Check.ask(x, "F10", 3) * 10 + Check.ask(x, "F10", 4), 20);
        check.is(x.copy(0, 0, 1, 0), 0);
        check.is(x.words(1, 0), "-100000q");
        // To itself: its references stay, also those that would leave the sheet elsewhere.
        Check.tell(x, "B1", "=CHOICE(A1,F10,$A$1)");
        check.is(copy(x, "B1", "B1"), 0);
        check.is(Check.words(x, "B1"), "=CHOICE(A1,F10,$A$1)");
        check.is(x.many(2), 7);
    }

    private static void copiesOfEmpty() {
        check.says("Returns how many REFERENCES are GONE in what is there then.");
        TabulaWorks x = new TabulaWorks();
        Check.put(x, "C3", 4);
        check.is(copy(x, "D4", "C3"), 0);
        check.is(Check.ask(x, "C3", 0), 0);
        Check.tell(x, "B5", "=CHOICE(A1,A2,A3)");
        check.is(copy(x, "B5", "A5"), 3);
        check.is(copy(x, "A5", "E5"), 3);
        check.is(copy(x, "B5", "E5"), 0);
        check.is(copy(x, "D4", "E5"), 0);
        Check.tell(x, "B6", "=FIND(A1:A2,A3)");
        check.is(copy(x, "B6", "A6"), 3);
        Check.tell(x, "B6", "=FIND(A1:B2,C3)");
        check.is(copy(x, "B6", "A6"), 1);
        Check.put(x, "B6", 4);
        check.is(copy(x, "B6", "A6"), 0);
    }

    private static void goAlong() {
        check.says("REFERENCES (of OPERANDS) go along by as many COLUMNS as the other one is farther, if their COLUMN is not "
            + "FIXED, and by as many ROWS, if their ROW is not");
        TabulaWorks x = new TabulaWorks();
        Check.tell(x, "C3", "=CHOICE($B2,B$2,$B$2)");
        Check.tell(x, "D3", "=PLUS(C3,D3)");
        check.is(copy(x, "C3", "E6"), 0);
        check.is(Check.words(x, "E6"), "=CHOICE($B5,D$2,$B$2)");
        check.is(copy(x, "E6", "D4"), 0);
        check.is(Check.words(x, "D4"), "=CHOICE($B3,C$2,$B$2)");
        check.is(copy(x, "D3", "D10"), 0);
        check.is(Check.words(x, "D10"), "=PLUS(C10,D10)");
        check.is(copy(x, "D3", "F3"), 0);
        check.is(Check.words(x, "F3"), "=PLUS(E3,F3)");
        // As far as can be, there and back.
        Check.tell(x, "A1", "=PLUS(A1,$A1)");
        check.is(copy(x, "A1", "F10"), 0);
        check.is(Check.words(x, "F10"), "=PLUS(F10,$A10)");
        check.is(copy(x, "F10", "A1"), 0);
        check.is(Check.words(x, "A1"), "=PLUS(A1,$A1)");
    }

    private static void leaveSheet() {
        check.says("a REFERENCE that would leave its SHEET is GONE");
        String[][] ways = {
            {"B1", "A1", "=CHOICE(A5,B5,F5)", "=CHOICE(?,A5,E5)"},
            {"E1", "F1", "=CHOICE(F5,E5,A5)", "=CHOICE(?,F5,B5)"},
            {"A2", "A1", "=CHOICE(C1,C2,C10)", "=CHOICE(?,C1,C9)"},
            {"A9", "A10", "=CHOICE(C10,C9,C1)", "=CHOICE(?,C10,C2)"},
            {"B2", "A1", "=CHOICE(A2,B1,$A1)", "=CHOICE(?,?,?)"},
            {"B2", "A1", "=CHOICE($A2,B$1,$A$1)", "=CHOICE($A1,A$1,$A$1)"},
            {"E9", "F10", "=CHOICE(F9,E10,F$10)", "=CHOICE(?,?,?)"},
            {"E9", "F10", "=CHOICE($F9,E$10,$F$10)", "=CHOICE($F10,F$10,$F$10)"},
            {"A1", "F10", "=CHOICE(B1,A2,A1)", "=CHOICE(?,?,F10)"},
            {"F10", "A1", "=CHOICE(E10,F9,F10)", "=CHOICE(?,?,A1)"},
        };
        for (String[] way : ways) {
            TabulaWorks x = new TabulaWorks();
            Check.tell(x, way[0], way[2]);
            check.is(copy(x, way[0], way[1]), way[3].split("\\?", -1).length - 1);
            check.is(Check.words(x, way[1]), way[3]);
            // References to the other sheet leave that likewise, wherever the formula is.
            Check.tell(x, 1, way[0], way[2]);
            check.is(x.copy(1, Check.at(way[0]), 0, Check.at(way[1])), way[3].split("\\?", -1).length - 1);
            check.is(Check.words(x, way[1]), way[3]);
        }
    }

    private static void leaveSheetAsCorners() {
        check.says("a REFERENCE that would leave its SHEET is GONE");
        TabulaWorks x = new TabulaWorks();
        Check.tell(x, "B2", "=SUM(A1:B2)");
        check.is(copy(x, "B2", "A2"), 1);
        check.is(Check.words(x, "A2") + Check.error(x, "A2"), "=SUM(?:A2)3");
        check.is(copy(x, "B2", "B1"), 1);
        check.is(Check.words(x, "B1"), "=SUM(?:B1)");
        Check.tell(x, "B2", "=FIND(B2:A1,A3)");
        check.is(copy(x, "B2", "A2"), 2);
        check.is(Check.words(x, "A2"), "=FIND(A2:?,?)");
        // It does not come back, however it is copied.
        check.is(copy(x, "A2", "B2"), 2);
        check.is(Check.words(x, "B2"), "=FIND(B2:?,?)");
        check.is(x.many(1), 5);
    }

    private static void staySame() {
        check.says("SHEETS of REFERENCES, NUMBERS and NAMES stay.");
        TabulaWorks x = new TabulaWorks();
        Check.tell(x, "C3", "=CHOICE(B2,S1!B2,N1)");
        Check.tell(x, "C4", "=PLUS(-500q,499q)");
        Check.tell(x, "C5", "=FIND(N2,S1!$A$1)");
        check.is(x.copy(0, Check.at("C3"), 1, Check.at("D3")), 0);
        check.is(x.words(1, Check.at("D3")), "=CHOICE(S0!C2,C2,N1)");
        check.is(x.copy(1, Check.at("D3"), 0, Check.at("D4")), 0);
        check.is(Check.words(x, "D4"), "=CHOICE(C3,S1!C3,N1)");
        check.is(copy(x, "C4", "A1"), 0);
        check.is(Check.words(x, "A1"), "=PLUS(-500q,499q)");
        check.is(x.copy(0, Check.at("C5"), 1, 59), 0);
        check.is(x.words(1, 59), "=FIND(N2,$A$1)");
    }

    private static String held(TabulaWorks x) {
        StringBuilder all = new StringBuilder();
        for (int cell = 0; cell < 60; cell++) {
            if (x.ofCell(0, cell, 0) != 0) {
                all.append((char) ('A' + cell % 6)).append(cell / 6 + 1).append(x.words(0, cell)).append(' ');
            }
        }
        return all.toString().trim();
    }

    private static void fills() {
        check.says("To FILL: a CELL is COPIED to all others of a RANGE between it and another CELL of its SHEET.");
        String[] corners = {"D6", "D4", "B4", "B6", "C6", "B5", "C4", "D5", "C5"};
        String[] due = {
            "C5=PLUS(C5,$C$5) D5=PLUS(D5,$C$5) C6=PLUS(C6,$C$5) D6=PLUS(D6,$C$5)",
            "C4=PLUS(C4,$C$5) D4=PLUS(D4,$C$5) C5=PLUS(C5,$C$5) D5=PLUS(D5,$C$5)",
            "B4=PLUS(B4,$C$5) C4=PLUS(C4,$C$5) B5=PLUS(B5,$C$5) C5=PLUS(C5,$C$5)",
            "B5=PLUS(B5,$C$5) C5=PLUS(C5,$C$5) B6=PLUS(B6,$C$5) C6=PLUS(C6,$C$5)",
            "C5=PLUS(C5,$C$5) C6=PLUS(C6,$C$5)", "B5=PLUS(B5,$C$5) C5=PLUS(C5,$C$5)",
            "C4=PLUS(C4,$C$5) C5=PLUS(C5,$C$5)", "C5=PLUS(C5,$C$5) D5=PLUS(D5,$C$5)", "C5=PLUS(C5,$C$5)"};
        int[] filled = {3, 3, 3, 3, 1, 1, 1, 1, 0};
        for (int k = 0; k < corners.length; k++) {
            TabulaWorks x = new TabulaWorks();
            Check.tell(x, "C5", "=PLUS(C5,$C$5)");
            check.is(x.fill(0, Check.at("C5"), Check.at(corners[k])), filled[k]);
            check.is(held(x), due[k]);
            check.is(x.ofSheet(1, 0), 0);
        }
    }

    private static void fillsAtEdges() {
        check.says("Returns to how many CELLS it is COPIED.");
        TabulaWorks x = new TabulaWorks();
        Check.tell(x, "A1", "=PLUS(A1,F10)");
        check.is(x.fill(0, 0, 59), 59);
        check.is(x.ofSheet(0, 1), 60);
        check.is(x.many(1), 59);
        check.is(Check.words(x, "F10"), "=PLUS(F10,?)");
        // Filling an empty cell empties.
        x.clear(0, 59);
        check.is(x.fill(0, 59, 0), 59);
        check.is(x.ofSheet(0, 0), 0);
        x.number(1, 5, 1);
        check.is(x.fill(1, 5, 0), 5);
        check.is(x.fill(1, 5, 59), 9);
        check.is(x.ofSheet(1, 0), 15);
        check.is(x.ofSheet(0, 0), 0);
    }

    private static void moves() {
        check.says("To MOVE a CELL to another one: that gets what it holds, just as it is; the CELL is EMPTY then.");
        TabulaWorks x = new TabulaWorks();
        Check.tell(x, "B2", "=CHOICE(A1,$A1,S1!F10)");
        x.digits(0, 7, 0);
        check.is(move(x, "B2", "F10"), 0);
        check.is(Check.words(x, "F10") + Check.words(x, "B2"), "=CHOICE(A1,$A1,S1!F10)");
        check.is(Check.ask(x, "B2", 3) * 10 + Check.ask(x, "F10", 3), 2);
        // What comes to the other sheet keeps the sheets that it names; S1!F10 was named, so that is gone.
        check.is(x.move(0, 59, 1, 59), 0);
        check.is(x.words(1, 59), "=CHOICE(S0!A1,S0!$A1,?)");
        check.is(x.ofSheet(0, 0), 0);
        // An empty cell empties the other one.
        Check.put(x, "A1", 4);
        check.is(move(x, "A2", "A1"), 0);
        check.is(x.ofSheet(0, 0), 0);
        check.is(x.words(1, 59), "=CHOICE(?,?,?)");
        check.is(x.many(1), 3);
    }

    private static void movesOfThoseThatNameIt() {
        check.says("All REFERENCES and CORNERS of NAMES, in all FORMULAS of both SHEETS, that named it name the other one from now "
            + "on (FIXED as before)");
        TabulaWorks x = new TabulaWorks();
        Check.put(x, "F10", 4);
        Check.tell(x, "A1", "=CHOICE(F10,$F10,F$10)");
        Check.tell(x, "A2", "=FIND(F10:F9,$F$10)");
        Check.tell(x, 1, "A1", "=PLUS(F10,S1!F10)");
        Check.tell(x, "A3", "=SUM(E9:F10)");
        x.name(0, 0, 59, 59);
        x.name(1, 0, 59, 0);
        x.name(2, 1, 59, 59);
        check.is(x.move(0, 59, 0, 7), 7);
        check.is(Check.words(x, "A1") + Check.words(x, "A2") + Check.words(x, "A3"),
            "=CHOICE(B2,$B2,B$2)=FIND(B2:F9,$B$2)=SUM(E9:B2)");
        check.is(x.words(1, 0), "=PLUS(S0!B2,F10)");
        check.is(Check.named(x, 0) + ", " + Check.named(x, 1) + ", " + Check.named(x, 2), "0 7 7, 0 7 0, 1 59 59");
        // Its own references to itself go along, too.
        Check.tell(x, "C5", "=PLUS(C5,$C$5)");
        check.is(move(x, "C5", "C6"), 2);
        check.is(Check.words(x, "C6"), "=PLUS(C6,$C$6)");
    }

    private static void movesOverOthers() {
        check.says("REFERENCES that had named the other one are GONE, and so a NAME of which a CORNER had named it names nothing.");
        TabulaWorks x = new TabulaWorks();
        Check.put(x, "A1", 4);
        Check.tell(x, "B1", "=CHOICE(C1,$C$1,A1)");
        Check.tell(x, "B2", "=SUM(C1:A1)");
        Check.tell(x, 1, "B1", "=FIND(D1:E1,C1)");
        // The one that is moved over is no formula that is there then.
        Check.tell(x, "C1", "=PLUS(A1,C1)");
        x.name(0, 0, Check.at("C1"), Check.at("D9"));
        x.name(1, 0, Check.at("A1"), Check.at("C1"));
        x.name(2, 1, Check.at("C1"), Check.at("C1"));
        check.is(move(x, "A1", "C1"), 2);
        check.is(Check.words(x, "B1") + Check.words(x, "B2"), "=CHOICE(?,?,C1)=SUM(?:C1)");
        check.is(x.words(1, 1), "=FIND(S0!D1:S0!E1,?)");
        check.is(Check.named(x, 0) + ", " + Check.named(x, 1) + ", " + Check.named(x, 2), "-1 -1 -1, -1 -1 -1, 1 2 2");
        check.is(x.many(1), 4);
        // A formula that named where it comes to.
        Check.tell(x, "E5", "=PLUS(E6,E5)");
        check.is(move(x, "E5", "E6"), 1);
        check.is(Check.words(x, "E6"), "=PLUS(?,E6)");
    }

    private static void movesToItself() {
        check.says("(MOVED to itself nothing changes.)");
        TabulaWorks x = Check.sample();
        Check.tell(x, "C1", "=SUM(A1:A1)");
        for (int cell = 0; cell < 15; cell++) {
            String before = Check.kept(x);
            check.is(x.move(0, cell, 0, cell), 0);
            check.is(Check.kept(x), before);
        }
        check.is(x.move(1, 0, 1, 0), 0);
        check.is(Check.named(x, 0), "0 0 6");
        check.is(x.many(1), 0);
        // But the same number on the other sheet is another cell.
        check.is(x.move(0, 0, 1, 0), 5);
    }

    private static void differentSheets() {
        check.says("A RANGE whose CORNERS come to different SHEETS by that is as one with a CORNER that is GONE, as long as they "
            + "are (its OPERANDS are not GONE by that)");
        TabulaWorks x = new TabulaWorks();
        Check.put(x, "A1", 4);
        Check.put(x, "A2", 8);
        Check.tell(x, "F1", "=SUM(A1:A2)");
        Check.tell(x, "F2", "=FIND(A2:A1,C9)");
        Check.tell(x, "F3", "=FIND(A2:A1,F4)");
        Check.tell(x, "F4", "=BY(1q,0q)");
        Check.tell(x, "F5", "=SUM(A1:A1)");
        check.is(x.move(0, 0, 1, 0), 5);
        check.is(Check.error(x, "F1") * 100 + Check.error(x, "F2") * 10 + Check.error(x, "F3"), 332);
        check.is(Check.ask(x, "F1", 6) + Check.ask(x, "F2", 6) + Check.ask(x, "F3", 6), 2);
        check.is(Check.value(x, "F5"), 1.0);
        check.is(x.many(1), 0);
        // Copied, they are on different sheets still, and not gone.
        check.is(copy(x, "F1", "F6"), 0);
        check.is(Check.words(x, "F6"), "=SUM(S1!A6:A7)");
        check.is(Check.error(x, "F6"), 3);
        // As long as they are: the other one follows, and one of them comes back.
        check.is(x.move(0, 6, 1, 7), 3);
        check.is(Check.words(x, "F1"), "=SUM(S1!A1:S1!B2)");
        check.is(Check.value(x, "F1"), 3.0);
        check.is(Check.ask(x, "F1", 6), 4);
        check.is(x.move(1, 0, 0, 0), 5);
        check.is(Check.error(x, "F1"), 3);
        check.is(x.move(0, 0, 1, 59), 5);
        check.is(Check.value(x, "F1"), 3.0);
    }

    private static void namesOnDifferentSheets() {
        check.says("a NAME whose CORNERS do names nothing then.");
        TabulaWorks x = new TabulaWorks();
        x.name(0, 0, 0, 6);
        x.name(1, 0, 6, 0);
        x.name(2, 0, 0, 0);
        Check.tell(x, "F1", "=SUM(N0)");
        check.is(x.move(0, 0, 1, 0), 0);
        check.is(Check.named(x, 0) + ", " + Check.named(x, 1) + ", " + Check.named(x, 2), "-1 -1 -1, -1 -1 -1, 1 0 0");
        check.is(x.ofName(0, 3), 0);
        check.is(Check.error(x, "F1"), 3);
        // Other than a range in a formula it names nothing for good.
        check.is(x.move(1, 0, 0, 0), 0);
        check.is(Check.named(x, 0) + ", " + Check.named(x, 2), "-1 -1 -1, 0 0 0");
        check.is(x.ofName(0, 4), 1);
    }

    /** Column A of ten rows holds the errors 5 to 1, doubles and nothing; column B holds the rows' numbers. */
    private static TabulaWorks mixed() {
        TabulaWorks x = new TabulaWorks();
        x.number(1, 0, 100000);
        Check.tell(x, 1, "A2", "=TIMES(S1!A1,S1!A1)");
        String[] words = {"", "=TIMES(S1!A2,S1!A2)", "12", "=FIND(S1!F1:S1!F1,1q)", "-4", "=PLUS(N0,1q)", "=BY(1q,0q)", "",
            "=PLUS(A9,1q)", "16"};
        for (int row = 0; row < 10; row++) {
            String cell = "A" + (row + 1);
            if (words[row].startsWith("=")) {
                Check.tell(x, cell, words[row]);
            } else if (!words[row].isEmpty()) {
                Check.put(x, cell, Integer.parseInt(words[row]));
            }
            x.number(0, row * 6 + 1, row);
        }
        return x;
    }

    private static String marks(TabulaWorks x) {
        StringBuilder all = new StringBuilder();
        for (int row = 0; row < 10; row++) {
            all.append(x.words(0, row * 6 + 1).replace("q", ""));
        }
        return all.toString();
    }

    private static void sortOrder() {
        check.says("doubles in their order (or the greatest first), then ERRORS by their numbers (also then), then those that "
            + "show nothing");
        TabulaWorks x = mixed();
        check.is(x.sort(0, 0, 9, 0, false), 9);
        check.is(marks(x), "4298653107");
        check.is(x.sort(0, 0, 9, 0, false), 0);
        x = mixed();
        check.is(x.sort(0, 0, 9, 0, true), 9);
        check.is(marks(x), "9248653107");
        x = mixed();
        check.is(x.sort(0, 9, 9, 0, true), 0);
        check.is(x.sort(0, 0, 0, 0, true), 0);
        check.is(x.sort(0, 8, 9, 0, true), 2);
        check.is(marks(x), "0123456798");
        check.is(x.sort(0, 0, 1, 0, true), 2);
        check.is(marks(x), "1023456798");
        check.is(x.sort(0, 2, 2, 5, false), 0);
        // 0.0 is a double, and comes ahead of nothing.
        TabulaWorks y = new TabulaWorks();
        Check.put(y, "A2", 0);
        check.is(y.sort(0, 0, 1, 0, true), 2);
        check.is(Check.words(y, "A1"), "0q");
    }

    private static void sortTies() {
        check.says("ROWS that are alike keep their order.");
        for (int down = 0; down < 2; down++) {
            TabulaWorks x = new TabulaWorks();
            for (int row = 0; row < 10; row++) {
                x.number(0, row * 6 + 1, row);
            }
            check.is(x.sort(0, 0, 9, 0, down == 1), 0);
            check.is(marks(x), "0123456789");
            for (int row = 0; row < 10; row++) {
                x.number(0, row * 6, 4);
            }
            check.is(x.sort(0, 0, 9, 0, down == 1), 0);
            check.is(marks(x), "0123456789");
            for (int row = 0; row < 10; row++) {
                x.formula(0, row * 6, 3, -499, -500, 0);
            }
            check.is(x.sort(0, 0, 9, 0, down == 1), 0);
            x.number(0, 54, 4);
            check.is(x.sort(0, 0, 9, 0, down == 1), 10);
            check.is(marks(x), "9012345678");
            x.number(0, 6, 4);
            x.number(0, 54, 4);
            check.is(x.sort(0, 0, 9, 0, down == 1), 8);
            check.is(marks(x), "9081234567");
        }
    }

    private static void sortByShown() {
        check.says("by the VALUES that are shown there (HELD ones, too)");
        TabulaWorks x = new TabulaWorks();
        Check.put(x, "A1", 8);
        Check.put(x, "A2", 4);
        x.hold(true);
        Check.put(x, "A1", 4);
        Check.put(x, "A2", 8);
        Check.put(x, "A3", -4);
        // 2.0, 1.0 and nothing are shown.
        check.is(x.sort(0, 0, 2, 0, false), 2);
        check.is(Check.words(x, "A1") + Check.words(x, "A2") + Check.words(x, "A3"), "8q4q-4q");
        check.is(Check.text(x, "A1") + Check.text(x, "A2") + Check.text(x, "A3"), "2.001.00");
        // So it goes again: what is shown has not moved.
        check.is(x.sort(0, 0, 2, 0, false), 2);
        check.is(Check.words(x, "A1") + Check.words(x, "A2"), "4q8q");
        x.reckon();
        check.is(x.sort(0, 0, 2, 0, false), 3);
        check.is(Check.words(x, "A1") + Check.words(x, "A2") + Check.words(x, "A3"), "-4q4q8q");
    }

    private static void sortOwnRow() {
        check.says("in these, REFERENCES to that SHEET whose ROW is not FIXED and is the one's own ROW go along with it.");
        TabulaWorks x = new TabulaWorks();
        Check.put(x, "A1", 12);
        Check.put(x, "A10", 4);
        Check.tell(x, "B1", "=CHOICE(A1,$A1,A$1)");
        Check.tell(x, "C1", "=CHOICE($A$1,A2,S1!A1)");
        Check.tell(x, "D1", "=FIND(A1:F2,A10)");
        Check.tell(x, "E10", "=SUM(A$10:A10)");
        Check.tell(x, "F10", "=PLUS(A1,S1!$B10)");
        check.is(x.sort(0, 0, 9, 0, false), 10);
        check.is(Check.words(x, "A1") + Check.words(x, "A2"), "4q12q");
        check.is(Check.words(x, "B2"), "=CHOICE(A2,$A2,A$1)");
        check.is(Check.words(x, "C2"), "=CHOICE($A$1,A2,S1!A1)");
        check.is(Check.words(x, "D2"), "=FIND(A2:F2,A10)");
        check.is(Check.words(x, "E1"), "=SUM(A$10:A1)");
        check.is(Check.words(x, "F1"), "=PLUS(A1,S1!$B10)");
        // On the other sheet it is that sheet's own rows.
        TabulaWorks y = new TabulaWorks();
        y.number(1, 6, -4);
        Check.tell(y, 1, "B2", "=CHOICE(A2,S1!A2,S1!A$2)");
        check.is(y.sort(1, 0, 1, 0, false), 2);
        check.is(y.words(1, 1), "=CHOICE(S0!A2,A1,A$2)");
    }

    private static void sortNothingElse() {
        check.says("Nothing else changes: other REFERENCES stay, and so do HIDDEN ROWS, digits and locks.");
        TabulaWorks x = new TabulaWorks();
        Check.put(x, "A2", 8);
        Check.put(x, "A3", 4);
        Check.tell(x, "F1", "=CHOICE(A2,$A$3,A3)");
        Check.tell(x, "F4", "=SUM(A2:A3)");
        Check.tell(x, 1, "F2", "=PLUS(A2,S1!A2)");
        x.name(0, 0, 6, 12);
        x.name(1, 0, 6, 6);
        x.hide(0, 1, true);
        x.digits(0, 12, 0);
        x.lock(0, 0, true);
        x.lock(0, 18, true);
        x.lock(1, 6, true);
        check.is(x.sort(0, 1, 2, 0, false), 2);
        check.is(Check.words(x, "F1") + Check.words(x, "F4") + x.words(1, 11), "=CHOICE(A2,$A$3,A3)=SUM(A2:A3)=PLUS(S0!A2,A2)");
        check.is(Check.named(x, 0) + ", " + Check.named(x, 1), "0 6 12, 0 6 6");
        check.is(x.ofSheet(0, 5), 2);
        check.is(Check.ask(x, "A2", 3) * 10 + Check.ask(x, "A3", 3), 20);
        check.is(x.ofSheet(0, 4), 2);
        check.is(Check.text(x, "A2") + Check.text(x, "A3"), "1.002");
    }

    // ---- 4. Rows and columns

    private static void puts() {
        check.says("To PUT IN a ROW (or COLUMN): all ROWS from that number on go one farther; that one is EMPTY then");
        for (int at = 0; at < 10; at++) {
            TabulaWorks x = new TabulaWorks();
            for (int row = 0; row < 9; row++) {
                x.number(0, row * 6, row);
                x.number(0, row * 6 + 5, row);
                x.number(1, row * 6, row);
            }
            check.is(x.put(0, true, at), 2 * (9 - at));
            for (int row = 0; row < 10; row++) {
                String due = row == at ? "" : (row < at ? row : row - 1) + "q";
                check.is(x.words(0, row * 6) + x.words(0, row * 6 + 5), due + due);
                check.is(x.words(1, row * 6), row == 9 ? "" : row + "q");
            }
        }
        for (int at = 0; at < 6; at++) {
            TabulaWorks x = new TabulaWorks();
            for (int column = 0; column < 5; column++) {
                x.number(1, column, column);
                x.number(1, 54 + column, column);
            }
            check.is(x.put(1, false, at), 2 * (5 - at));
            for (int column = 0; column < 6; column++) {
                String due = column == at ? "" : (column < at ? column : column - 1) + "q";
                check.is(x.words(1, column) + x.words(1, 54 + column), due + due);
            }
        }
    }

    private static void putsWhenLastIsHeld() {
        check.says("the last one has to be EMPTY ahead of it.");
        for (int cell = 54; cell < 60; cell++) {
            TabulaWorks x = new TabulaWorks();
            x.number(0, cell, 0);
            for (int at = 0; at < 10; at++) {
                int row = at;
                check.fails(x, Check.STATE, () -> x.put(0, true, row));
            }
            check.is(x.put(1, true, 0), 0);
            if (cell < 59) {
                check.is(x.put(0, false, 0), 1);
            } else {
                check.fails(x, Check.STATE, () -> x.put(0, false, 0));
            }
        }
        for (int row = 0; row < 10; row++) {
            TabulaWorks x = new TabulaWorks();
            x.formula(1, row * 6 + 5, 0, 0, 0, 0);
            check.fails(x, Check.STATE, () -> x.put(1, false, 0));
            check.fails(x, Check.STATE, () -> x.put(1, false, 5));
            check.is(x.put(0, false, 5), 0);
        }
        // Hidden, locked and shown otherwise, it is EMPTY still.
        TabulaWorks x = new TabulaWorks();
        x.lock(0, 59, true);
        x.digits(0, 59, 0);
        x.hide(0, 9, true);
        check.is(x.put(0, true, 9), 0);
        // What a cell shows while it is HELD does not count: what it holds does.
        x.number(0, 59, 4);
        x.hold(true);
        x.clear(0, 59);
        check.is(x.put(0, true, 9), 0);
        x.number(0, 59, 4);
        x.reckon();
        x.clear(0, 59);
        check.is(x.put(0, false, 5), 0);
    }

    private static void takes() {
        check.says("To TAKE one OUT: what it holds is gone, all behind it go one nearer, the last one is EMPTY then.");
        for (int at = 0; at < 10; at++) {
            TabulaWorks x = new TabulaWorks();
            for (int row = 0; row < 10; row++) {
                x.number(0, row * 6, row);
                x.number(0, row * 6 + 5, row);
                x.number(1, row * 6, row);
            }
            check.is(x.take(0, true, at), 0);
            for (int row = 0; row < 10; row++) {
                String due = row == 9 ? "" : (row < at ? row : row + 1) + "q";
                check.is(x.words(0, row * 6) + x.words(0, row * 6 + 5), due + due);
                check.is(x.words(1, row * 6), row + "q");
            }
        }
        for (int at = 0; at < 6; at++) {
            TabulaWorks x = new TabulaWorks();
            for (int column = 0; column < 6; column++) {
                x.number(1, column, column);
                x.number(1, 54 + column, column);
            }
            check.is(x.take(1, false, at), 0);
            for (int column = 0; column < 6; column++) {
                String due = column == 5 ? "" : (column < at ? column : column + 1) + "q";
                check.is(x.words(1, column) + x.words(1, 54 + column), due + due);
            }
        }
    }

    /** A formula on the other sheet, that stays where it is. */
    private static String after(String words, boolean isPut, boolean isRow, int at) {
        TabulaWorks x = new TabulaWorks();
        Check.tell(x, 1, "C3", words);
        if (isPut) {
            x.put(0, isRow, at);
        } else {
            x.take(0, isRow, at);
        }
        return x.words(1, Check.at("C3")).replace("S0!", "");
    }

    private static void farther() {
        check.says("REFERENCES and CORNERS (of RANGES in FORMULAS and of NAMES) to CELLS that go elsewhere go along, also FIXED "
            + "ones");
        check.is(after("=CHOICE(B4,$B4,B$5)", true, true, 4), "=CHOICE(B4,$B4,B$6)");
        check.is(after("=CHOICE(B4,$B4,B$5)", true, true, 3), "=CHOICE(B5,$B5,B$6)");
        check.is(after("=CHOICE($A$1,F1,F$9)", true, true, 0), "=CHOICE($A$2,F2,F$10)");
        check.is(after("=CHOICE(A1,$B1,$E$1)", true, false, 0), "=CHOICE(B1,$C1,$F$1)");
        check.is(after("=CHOICE(A1,$B1,$E$1)", true, false, 1), "=CHOICE(A1,$C1,$F$1)");
        check.is(after("=FIND(B2:$C$3,C3)", true, true, 2), "=FIND(B2:$C$4,C4)");
        check.is(after("=FIND(B2:$C$3,C3)", true, true, 1), "=FIND(B3:$C$4,C4)");
        check.is(after("=FIND(B2:$C$3,C3)", true, true, 3), "=FIND(B2:$C$3,C3)");
        check.is(after("=SUM(S1!A1:S1!F10)", true, true, 0), "=SUM(A1:F10)");
        TabulaWorks x = new TabulaWorks();
        x.name(0, 0, Check.at("B2"), Check.at("A1"));
        x.name(1, 1, Check.at("B2"), Check.at("A1"));
        x.put(0, true, 1);
        check.is(Check.named(x, 0) + ", " + Check.named(x, 1), "0 13 0, 1 7 0");
        x.put(0, false, 0);
        check.is(Check.named(x, 0) + ", " + Check.named(x, 1), "0 14 1, 1 7 0");
        x.put(0, true, 3);
        check.is(Check.named(x, 0), "0 14 1");
        // A formula that goes along names what goes along, too.
        Check.tell(x, "A5", "=PLUS(A5,$A$6)");
        x.put(0, true, 4);
        check.is(Check.words(x, "A6"), "=PLUS(A6,$A$7)");
    }

    private static void nearer() {
        check.says("REFERENCES and CORNERS (of RANGES in FORMULAS and of NAMES) to CELLS that go elsewhere go along, also FIXED "
            + "ones");
        check.is(after("=CHOICE(B4,$B6,B$10)", false, true, 4), "=CHOICE(B4,$B5,B$9)");
        check.is(after("=CHOICE($A$2,F10,F$2)", false, true, 0), "=CHOICE($A$1,F9,F$1)");
        check.is(after("=CHOICE(A9,$B1,$E$8)", false, true, 9), "=CHOICE(A9,$B1,$E$8)");
        check.is(after("=CHOICE(B1,$F1,$D$1)", false, false, 0), "=CHOICE(A1,$E1,$C$1)");
        check.is(after("=CHOICE(B1,$F1,$D$1)", false, false, 2), "=CHOICE(B1,$E1,$C$1)");
        check.is(after("=FIND(B2:$C$4,C5)", false, true, 2), "=FIND(B2:$C$3,C4)");
        check.is(after("=FIND(B2:$C$4,C5)", false, true, 0), "=FIND(B1:$C$3,C4)");
        check.is(after("=SUM(S1!A1:S1!F10)", false, true, 0), "=SUM(A1:F10)");
        TabulaWorks x = new TabulaWorks();
        x.name(0, 0, Check.at("D4"), Check.at("B2"));
        x.name(1, 1, Check.at("D4"), Check.at("B2"));
        x.take(0, true, 2);
        check.is(Check.named(x, 0) + ", " + Check.named(x, 1), "0 15 7, 1 21 7");
        x.take(0, false, 0);
        check.is(Check.named(x, 0) + ", " + Check.named(x, 1), "0 14 6, 1 21 7");
        x.take(0, true, 9);
        check.is(Check.named(x, 0), "0 14 6");
    }

    private static void lastOnes() {
        check.says(LAST);
        check.is(after("=CHOICE(A10,$A$10,A9)", true, true, 0), "=CHOICE(?,?,A10)");
        check.is(after("=CHOICE(A10,$A$10,A9)", true, true, 9), "=CHOICE(?,?,A9)");
        check.is(after("=CHOICE(F1,$F$1,E1)", true, false, 0), "=CHOICE(?,?,F1)");
        check.is(after("=CHOICE(F1,$F$1,E1)", true, false, 5), "=CHOICE(?,?,E1)");
        check.is(after("=CHOICE(F10,F10,F9)", true, true, 5), "=CHOICE(?,?,F10)");
        // THREE is a reference, and so is what is on the other sheet or in the last one of the other kind.
        check.is(after("=FIND(A1:A2,A10)", true, true, 9), "=FIND(A1:A2,?)");
        check.is(after("=FIND(N0,F1)", true, false, 5), "=FIND(N0,?)");
        check.is(after("=CHOICE(S1!A10,F1,1q)", true, true, 5), "=CHOICE(A10,F1,1q)");
        TabulaWorks x = new TabulaWorks();
        Check.tell(x, "A1", "=PLUS(A10,F1)");
        check.is(x.put(1, true, 0), 0);
        check.is(Check.words(x, "A1"), "=PLUS(A10,F1)");
        check.is(x.put(0, true, 9), 0);
        check.is(x.put(0, false, 5), 0);
        check.is(Check.words(x, "A1"), "=PLUS(?,?)");
        check.is(x.many(1), 2);
        check.is(Check.error(x, "A1"), 3);
    }

    private static void lastCorners() {
        check.says(LAST);
        check.is(after("=SUM(A1:A10)", true, true, 0), "=SUM(A2:A10)");
        check.is(after("=SUM($A$10:A1)", true, true, 9), "=SUM($A$10:A1)");
        check.is(after("=SUM(A9:A10)", true, true, 8), "=SUM(A10:A10)");
        check.is(after("=SUM(A10:A10)", true, true, 0), "=SUM(A10:A10)");
        check.is(after("=FIND(F1:A1,F1)", true, false, 0), "=FIND(F1:B1,?)");
        check.is(after("=FIND(F1:F10,1q)", true, false, 5), "=FIND(F1:F10,1q)");
        TabulaWorks x = new TabulaWorks();
        x.name(0, 0, 59, 0);
        x.name(1, 0, 59, 59);
        x.name(2, 0, 53, 53);
        x.put(0, true, 0);
        check.is(Check.named(x, 0) + ", " + Check.named(x, 1) + ", " + Check.named(x, 2), "0 59 6, 0 59 59, 0 59 59");
        x.put(0, false, 5);
        check.is(Check.named(x, 0) + ", " + Check.named(x, 1), "0 59 6, 0 59 59");
    }

    private static void takenReferences() {
        check.says("To a CELL that is taken out: a REFERENCE is GONE");
        check.is(after("=CHOICE(A1,$B$1,A2)", false, true, 0), "=CHOICE(?,?,A1)");
        check.is(after("=CHOICE(A10,$B$10,A9)", false, true, 9), "=CHOICE(?,?,A9)");
        check.is(after("=CHOICE(F1,$F$9,E1)", false, false, 5), "=CHOICE(?,?,E1)");
        check.is(after("=CHOICE(A1,$A$9,B1)", false, false, 0), "=CHOICE(?,?,A1)");
        check.is(after("=FIND(A1:A2,A4)", false, true, 3), "=FIND(A1:A2,?)");
        check.is(after("=FIND(N0,A4)", false, true, 3), "=FIND(N0,?)");
        check.is(after("=CHOICE(S1!A1,A1,1q)", false, true, 0), "=CHOICE(A1,?,1q)");
        TabulaWorks x = new TabulaWorks();
        Check.tell(x, "A2", "=PLUS(A1,S1!A1)");
        check.is(x.take(0, true, 0), 1);
        check.is(Check.words(x, "A1"), "=PLUS(?,S1!A1)");
        check.is(x.take(1, true, 0), 1);
        check.is(Check.words(x, "A1"), "=PLUS(?,?)");
        check.is(x.take(0, true, 0), 0);
        check.is(x.many(1), 0);
    }

    private static void takenCorners() {
        check.says("of two CORNERS of which just one lies in that ROW (COLUMN): it names the one that comes to its place, if it is "
            + "the smaller one by ROWS (COLUMNS), otherwise it goes one nearer");
        check.is(after("=SUM(A1:B2)", false, true, 0), "=SUM(A1:B1)");
        check.is(after("=SUM(A1:B2)", false, true, 1), "=SUM(A1:B1)");
        check.is(after("=SUM(A1:B2)", false, false, 0), "=SUM(A1:A2)");
        check.is(after("=SUM(A1:B2)", false, false, 1), "=SUM(A1:A2)");
        check.is(after("=SUM($B$9:A3)", false, true, 2), "=SUM($B$8:A3)");
        check.is(after("=SUM($B$9:A3)", false, true, 8), "=SUM($B$8:A3)");
        check.is(after("=SUM(F10:A1)", false, true, 9), "=SUM(F9:A1)");
        check.is(after("=SUM(F10:A1)", false, false, 5), "=SUM(E10:A1)");
        check.is(after("=SUM(F10:E9)", false, true, 8), "=SUM(F9:E9)");
        check.is(after("=SUM(F10:E9)", false, false, 4), "=SUM(E10:E9)");
        // The smaller one by rows may be the greater one by columns, and the other way round.
        check.is(after("=SUM(F3:A6)", false, true, 2), "=SUM(F3:A5)");
        check.is(after("=SUM(F3:A6)", false, true, 5), "=SUM(F3:A5)");
        check.is(after("=SUM(F3:A6)", false, false, 0), "=SUM(E3:A6)");
        check.is(after("=SUM(F3:A6)", false, false, 5), "=SUM(E3:A6)");
        // Those of the other sheet stay, in the same rows and columns.
        check.is(after("=SUM(S1!A1:S1!B3)", false, true, 2), "=SUM(A1:B3)");
        check.is(after("=SUM(S1!A1:S1!B3)", false, true, 0), "=SUM(A1:B3)");
        check.is(after("=SUM(S1!B3:S1!A1)", false, false, 1), "=SUM(B3:A1)");
        check.is(after("=SUM(S1!A1:S1!F1)", false, true, 0), "=SUM(A1:F1)");
        // One cell less each time, and the values of those that are left.
        TabulaWorks x = new TabulaWorks();
        for (int row = 0; row < 10; row++) {
            x.number(0, row * 6, 4 << row);
        }
        Check.tell(x, 1, "A1", "=SUM(A3:A7)");
        check.is(x.value(1, 0), 4.0 + 8 + 16 + 32 + 64);
        check.is(x.take(0, true, 2), 0);
        check.is(x.value(1, 0), 8.0 + 16 + 32 + 64);
        check.is(x.take(0, true, 5), 0);
        check.is(x.value(1, 0), 8.0 + 16 + 32);
        check.is(x.words(1, 0), "=SUM(S0!A3:S0!A5)");
        TabulaWorks y = new TabulaWorks();
        y.name(0, 0, 0, 59);
        y.name(1, 0, 59, 0);
        y.name(2, 1, 0, 59);
        y.take(0, true, 0);
        check.is(Check.named(y, 0) + ", " + Check.named(y, 1), "0 0 53, 0 53 0");
        y.take(0, false, 5);
        check.is(Check.named(y, 0) + ", " + Check.named(y, 1) + ", " + Check.named(y, 2), "0 0 52, 0 52 0, 1 0 59");
        y.take(0, true, 9);
        check.is(Check.named(y, 2), "1 0 59");
    }

    private static void bothTaken() {
        check.says("with both there, both are GONE (a NAME names nothing).");
        check.is(after("=SUM(A1:F1)", false, true, 0), "=SUM(?:?)");
        check.is(after("=SUM(F10:A10)", false, true, 9), "=SUM(?:?)");
        check.is(after("=FIND(A1:A10,B1)", false, false, 0), "=FIND(?:?,A1)");
        check.is(after("=FIND(A1:A1,A1)", false, false, 0), "=FIND(?:?,?)");
        TabulaWorks x = new TabulaWorks();
        Check.tell(x, "F9", "=SUM(A1:F1)");
        x.name(0, 0, 0, 5);
        x.name(1, 0, 0, 54);
        x.name(2, 1, 0, 5);
        check.is(x.take(0, true, 0), 2);
        check.is(Check.words(x, "F8") + Check.error(x, "F8"), "=SUM(?:?)3");
        check.is(Check.named(x, 0) + ", " + Check.named(x, 1) + ", " + Check.named(x, 2), "-1 -1 -1, 0 0 48, 1 0 5");
        check.is(x.take(0, false, 0), 0);
        check.is(Check.named(x, 1) + ", " + Check.named(x, 2), "-1 -1 -1, 1 0 5");
    }

    private static void cornersLikeOthers() {
        check.says(OTHERS);
        TabulaWorks x = new TabulaWorks();
        // The other one GONE: in the last row or taken out, this one is GONE, too.
        Check.tellGone(x, "A5", "=SUM(A1:B10)");
        check.is(Check.words(x, "A5"), "=SUM(?:A10)");
        check.is(copy(x, "A5", "A6"), 2);
        check.is(copy(x, "A5", "A4"), 1);
        check.is(Check.words(x, "A4"), "=SUM(?:A9)");
        check.is(x.take(0, true, 8), 1);
        check.is(Check.words(x, "A4") + Check.words(x, "A5"), "=SUM(?:?)=SUM(?:A9)");
        x.put(0, true, 0);
        check.is(Check.words(x, "A6"), "=SUM(?:A10)");
        x.put(0, true, 0);
        check.is(Check.words(x, "A7"), "=SUM(?:?)");
        // On the other sheet: so it is.
        TabulaWorks y = new TabulaWorks();
        Check.tell(y, "A5", "=SUM(F1:F3)");
        Check.tell(y, "A6", "=SUM(F1:E3)");
        y.move(0, Check.at("F1"), 1, Check.at("F10"));
        check.is(Check.words(y, "A5") + Check.words(y, "A6"), "=SUM(S1!F10:F3)=SUM(S1!F10:E3)");
        y.put(0, false, 5);
        check.is(Check.words(y, "A5") + Check.words(y, "A6"), "=SUM(S1!F10:?)=SUM(S1!F10:E3)");
        check.is(y.take(0, false, 4), 1);
        check.is(Check.words(y, "A6"), "=SUM(S1!F10:?)");
        y.put(1, true, 0);
        check.is(Check.words(y, "A5") + Check.words(y, "A6"), "=SUM(?:?)=SUM(?:?)");
        check.is(y.many(1), 4);
        // Even if it lies where a corner would stay or go one nearer.
        TabulaWorks z = new TabulaWorks();
        Check.tell(z, "A5", "=SUM(F3:F9)");
        z.move(0, Check.at("F9"), 1, Check.at("F9"));
        check.is(z.take(0, true, 2), 1);
        check.is(Check.words(z, "A4"), "=SUM(?:S1!F9)");
    }

    private static void hiddenGoAlong() {
        check.says("HIDDEN ROWS, digits and locks go along");
        TabulaWorks x = new TabulaWorks();
        x.hide(0, 4, true);
        x.hide(0, 8, true);
        x.digits(0, Check.at("C5"), 0);
        x.lock(0, Check.at("C9"), true);
        x.digits(1, Check.at("C5"), 1);
        x.put(0, true, 5);
        check.is(x.ofSheet(0, 5), 16 + 512);
        x.put(0, true, 4);
        check.is(x.ofSheet(0, 5), 32);
        check.is(Check.ask(x, "C6", 3) * 10 + Check.ask(x, "C5", 3), 2);
        check.is(x.ofSheet(0, 4), 0);
        x.undo();
        check.is(Check.ask(x, "C10", 4), 1);
        x.put(0, false, 0);
        check.is(Check.ask(x, "D10", 4) * 10 + Check.ask(x, "C10", 4), 10);
        check.is(Check.ask(x, "D5", 3) * 10 + Check.ask(x, "C5", 3), 2);
        check.is(x.ofSheet(0, 5), 16 + 512);
        x.take(0, true, 0);
        check.is(x.ofSheet(0, 5), 8 + 256);
        check.is(Check.ask(x, "D4", 3) * 10 + Check.ask(x, "D5", 3), 2);
        check.is(Check.ask(x, "D9", 4) * 10 + Check.ask(x, "D10", 4), 10);
        x.take(0, true, 3);
        check.is(x.ofSheet(0, 5), 128);
        x.take(0, false, 0);
        check.is(Check.ask(x, "C8", 4) * 10 + Check.ask(x, "D8", 4), 10);
        check.is(x.ofSheet(0, 5), 128);
        check.is(x.ofCell(1, Check.at("C5"), 3), 1);
        // On the other sheet likewise, and there alone.
        x.hide(1, 4, true);
        x.put(1, true, 0);
        check.is(x.ofSheet(1, 5) * 1000 + x.ofSheet(0, 5), 32128);
        x.hide(1, 9, true);
        x.hide(1, 0, true);
        x.take(1, true, 3);
        check.is(x.ofSheet(1, 5), 1 + 16 + 256);
        x.put(1, true, 0);
        check.is(x.ofSheet(1, 5), 2 + 32 + 512);
        check.is(x.ofCell(1, Check.at("C6"), 3), 1);
        check.is(x.ofSheet(0, 5), 128);
    }

    /** Every cell of the sheet has digits of 0, and every row of it is hidden. */
    private static TabulaWorks marked(int sheet) {
        TabulaWorks x = new TabulaWorks();
        for (int cell = 0; cell < 60; cell++) {
            x.digits(sheet, cell, 0);
        }
        for (int row = 0; row < 10; row++) {
            x.hide(sheet, row, true);
        }
        return x;
    }

    private static void newLines() {
        check.says("a ROW or COLUMN that is new is not HIDDEN, has DIGITS of 2 and no locks.");
        int[] lines = {0, 4, 9, 0, 3, 5};
        for (int k = 0; k < 24; k++) {
            boolean isRow = k % 6 < 3;
            boolean isPut = k % 12 < 6;
            int sheet = k / 12;
            TabulaWorks x = marked(sheet);
            int at = lines[k % 6];
            if (isPut) {
                for (int cell = 0; cell < 60; cell++) {
                    x.lock(sheet, cell, true);
                }
                x.put(sheet, isRow, at);
            } else {
                for (int cell = 0; cell < 60; cell++) {
                    x.lock(sheet, cell, (isRow ? cell / 6 : cell % 6) != at);
                }
                x.take(sheet, isRow, at);
                at = isRow ? 9 : 5;
            }
            for (int cell = 0; cell < 60; cell++) {
                boolean isNew = (isRow ? cell / 6 : cell % 6) == at;
                check.is(x.ofCell(sheet, cell, 3) * 10 + x.ofCell(sheet, cell, 4), isNew ? 20 : 1);
            }
            check.is(x.ofSheet(sheet, 5), isRow ? 1023 - (1 << at) : 1023);
            check.is(x.ofSheet(1 - sheet, 5), 0);
        }
    }

    private static void filters() {
        check.says("each ROW is HIDDEN, if its CELL there has no double as its VALUE, or one below a number that is told in "
            + "quarters; otherwise it is not.");
        TabulaWorks x = new TabulaWorks();
        Check.put(x, "F1", 4);
        Check.put(x, "F2", 5);
        Check.put(x, "F3", 3);
        Check.put(x, "F4", 0);
        Check.put(x, "F5", -4);
        Check.tell(x, "F6", "=BY(1q,0q)");
        Check.tell(x, "F7", "=LESS(4q,F8)");
        Check.put(x, "A8", 100000);
        Check.tell(x, "F8", "=BY(1q,A8)");
        x.hide(0, 1, true);
        x.hide(1, 1, true);
        // 1.0 is not below 4 quarters; 1.0 less 0.00001 is.
        check.is(x.filter(0, 5, 4), 8);
        check.is(x.ofSheet(0, 5), 1023 - 1 - 2);
        check.is(x.filter(0, 5, 5), 9);
        check.is(x.filter(0, 5, 6), 10);
        check.is(x.filter(0, 5, 3), 6);
        check.is(x.filter(0, 5, 0), 4);
        check.is(x.filter(0, 5, -4), 3);
        check.is(x.ofSheet(0, 5), 32 + 256 + 512);
        // Nothing and errors are HIDDEN by the least number, too; nothing is let by the greatest.
        check.is(x.filter(0, 5, Integer.MIN_VALUE), 3);
        check.is(x.filter(0, 5, Integer.MAX_VALUE), 10);
        check.is(x.filter(0, 1, Integer.MIN_VALUE), 10);
        check.is(x.ofSheet(1, 5), 2);
        check.is(x.filter(1, 0, 0), 10);
    }

    private static void filtersAhead() {
        check.says("(by the VALUES that are shown ahead of it)");
        TabulaWorks x = new TabulaWorks();
        Check.put(x, "B1", 4);
        Check.put(x, "B2", 8);
        // It is 3.0 ahead of it, and 0.0 then, as all rows but its own are HIDDEN.
        Check.tell(x, "A3", "=SHOWN(B1:B2)");
        check.is(x.filter(0, 0, 12), 9);
        check.is(x.ofSheet(0, 5), 1023 - 4);
        check.is(Check.value(x, "A3"), 0.0);
        check.is(x.filter(0, 0, 12), 10);
        check.is(x.filter(0, 1, 0), 8);
        check.is(Check.value(x, "A3"), 3.0);
        // While it is HELD: by what is shown, not by what would be.
        x.hold(true);
        Check.put(x, "B1", -4);
        Check.put(x, "B5", 4);
        check.is(x.filter(0, 1, 0), 8);
        check.is(x.ofSheet(0, 5), 1023 - 1 - 2);
        x.reckon();
        check.is(x.filter(0, 1, 0), 8);
        check.is(x.ofSheet(0, 5), 1023 - 2 - 16);
    }
}
