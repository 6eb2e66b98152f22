/** The sentences of the terms about patterns, and promises 10 to 16. */
final class LookEdges {
    private static final String COLUMN = "`column`: column of the field";
    private static final String ROW = "`row`: row of the field";

    private LookEdges() {
    }

    static void run() {
        terms();
        layer();
        seen();
        where();
        colour();
        holes();
        count();
        symmetries();
    }

    private static void terms() {
        Sentences.of(Sentences.TERMS);
        Sentences.nameNoBoundary("Patterns");
        Sentences.test("A pattern is a set of cells", LookEdges::aCellIsInAPatternOnce);
        Sentences.test("The pattern of the paper is the set of the cells with holes",
                LookEdges::noHoleAndAllHoles, LookEdges::mendedCellsAreNotInThePattern);
        Sentences.test("The target is a pattern, too", LookEdges::targetOfNoneAndAll);
        Sentences.test("at the beginning it is empty", LookEdges::emptyTarget);
        Sentences.test("A piece is a set of whole cells that hang together, as large as possible: two whole cells "
                + "hang together if they are beside each other in the same row or column, or if there are whole "
                + "cells between them of which each one hangs together with the next one",
                LookEdges::besideInARow, LookEdges::besideInAColumn, LookEdges::cornersDoNotHangTogether,
                LookEdges::edgesDoNotWrapAround, LookEdges::wholeCellsBetween, LookEdges::asLargeAsPossible);
        Sentences.test("Folds do not matter for this", LookEdges::foldsDoNotMatter);
    }

    private static void layer() {
        Sentences.of(10);
        Sentences.test("`int layer(int column, int row, int index, int part)`: Returns something about a layer",
                () -> Due.onlyLooks("layer()", Papers::full, x -> x.layer(0, 0, 0, 2), 1));
        Sentences.test(COLUMN, () -> columnsAndRows(true, (x, c, r) -> x.layer(c, r, 0, 3)));
        Sentences.test(ROW, () -> columnsAndRows(false, (x, c, r) -> x.layer(c, r, 0, 3)));
        Sentences.test("`index`: 0 for the uppermost layer", LookEdges::uppermostAndLowestLayer);
        Sentences.test("`part`: 0 for the number of its cell, 1 for the side that is up (0 for the front, 1 for the "
                + "back), 2 for whether its cell has a hole (1 or 0), 3 for the colour of the side that is up",
                LookEdges::partsOfLayers);
        Sentences.test("Returns the number", LookEdges::leastAndMostOfLayers);
        Sentences.test("NO_SUCH if there is no such field or layer",
                () -> noSuchField((x, c, r) -> x.layer(c, r, 0, 0)), LookEdges::noSuchLayer);
        Sentences.test("BAD_VALUE if part is out of range", LookEdges::layerPartOutOfRange);
    }

    private static void seen() {
        Sentences.of(11);
        Sentences.test("`int seen(int column, int row)`: Returns what is seen from above on a field",
                () -> Due.onlyLooks("seen(0, 0)", Papers::full, x -> x.seen(0, 0), 5));
        Sentences.test(COLUMN, () -> columnsAndRows(true, (x, c, r) -> x.seen(c, r)));
        Sentences.test(ROW, () -> columnsAndRows(false, (x, c, r) -> x.seen(c, r)));
        Sentences.test("Returns 10 * the number of the cell of the uppermost layer without a hole + the colour of "
                + "its upper side", LookEdges::leastAndMostSeen, LookEdges::seenThroughHoles);
        Sentences.test("NO_SUCH if there is no such field", () -> noSuchField((x, c, r) -> x.seen(c, r)));
        Sentences.test("NONE if all cells of the stack have holes", LookEdges::nothingIsSeen);
    }

    private static void where() {
        Sentences.of(12);
        Sentences.test("`int where(int cell, int part)`: Tells where a cell of the paper is now",
                () -> Due.onlyLooks("where(0, 2)", Papers::full, x -> x.where(0, 2), 3));
        Sentences.test("`cell`: 0 to 63", LookEdges::leastAndMostCellOfWhere);
        Sentences.test("`part`: 0 for the column and 1 for the row of its field, 2 for the index of its layer, 3 for "
                + "the side that is up", LookEdges::partsOfWhere);
        Sentences.test("Returns the number", LookEdges::whereAndLayerAgree);
        Sentences.test("NO_SUCH if there is no such cell", LookEdges::whereNoCell);
        Sentences.test("BAD_VALUE if part is out of range", LookEdges::wherePartOutOfRange);
    }

    private static void colour() {
        Sentences.of(13);
        Sentences.test("`int colour(int cell, int side)`: Returns the colour of a side of a cell",
                () -> Due.onlyLooks("colour(0, 0)", Papers::full, x -> x.colour(0, 0), 5));
        Sentences.test("`cell`: 0 to 63", LookEdges::leastAndMostCellOfColour);
        Sentences.test("`side`: 0 for the front, 1 for the back", LookEdges::bothSides);
        Sentences.test("Returns the colour", LookEdges::leastAndMostColour);
        Sentences.test("NO_SUCH if there is no such cell", LookEdges::colourOfNoCell);
        Sentences.test("BAD_VALUE if side is out of range", LookEdges::sideOutOfRange);
    }

    private static void holes() {
        Sentences.of(14);
        Sentences.test("`int holes(int row)`: Returns the cells with holes of a row of the paper",
                () -> Due.onlyLooks("holes(0)", Papers::full, x -> x.holes(0), 128), LookEdges::holesOfAFoldedPaper);
        Sentences.test("`row`: 0 to 7", LookEdges::firstAndLastRowOfHoles);
        Sentences.test("Returns a bit mask: bit c is 1 if the cell in the column c has a hole",
                LookEdges::bitsOfHoles, LookEdges::leastAndMostMaskOfHoles);
        Sentences.test("NO_SUCH if there is no such row", LookEdges::holesOfNoRow);
    }

    private static void count() {
        Sentences.of(15);
        Sentences.test("`int count(int what)`: Returns a number of the paper",
                () -> Due.onlyLooks("count(0)", Papers::full, x -> x.count(0), 4));
        Sentences.test("`what`: 0 for the cells with holes, 1 for the pieces, 2 for the cells of the largest piece "
                + "(0 without pieces), 3 for the sides with a colour that is not 0, 4 for the cells of the target, "
                + "5 for the cells that belong to just one of the pattern of the paper and the target",
                LookEdges::eachWhat, LookEdges::noPieces, LookEdges::firstOrLastPieceIsLargest,
                LookEdges::colouredSides, LookEdges::justOneOfBoth);
        Sentences.test("Returns the number", LookEdges::leastNumbers, LookEdges::mostNumbers);
        Sentences.test("BAD_VALUE if what is out of range", LookEdges::whatOutOfRange);
    }

    private static void symmetries() {
        Sentences.of(16);
        Sentences.test("`int symmetries()`: Returns the symmetries of the pattern of the paper, as a bit mask: bit 0 "
                + "is 1 if it stays the same when each column c becomes the column 7 - c",
                () -> Due.onlyLooks("symmetries()", Papers::full, PunchedFolds::symmetries, 8),
                LookEdges::noHoleAndAllHolesAreSymmetrical, LookEdges::onlyColumnsMirrored,
                LookEdges::symmetriesOfTheHoles);
        Sentences.test("bit 1 if each row r becomes the row 7 - r", LookEdges::onlyRowsMirrored);
        Sentences.test("bit 2 if both become so", LookEdges::onlyBothMirrored, LookEdges::bothMirroredWithEach);
        Sentences.test("bit 3 if columns become rows and rows become columns", LookEdges::onlyExchanged);
    }

    // ---- columns and rows of fields

    private interface OnField {
        int answer(PunchedFolds x, int column, int row);
    }

    /** The first and the last column (or row) are there in each size, and those beside them are not. */
    private static void columnsAndRows(boolean isColumn, OnField call) {
        for (int folds = 0; folds < 4; folds++) {
            PunchedFolds x = isColumn ? Papers.sized(folds, 1) : Papers.sized(1, folds);
            int last = (8 >> folds) - 1;
            for (int place : new int[] {-1, 0, last, last + 1}) {
                int answer = isColumn ? call.answer(x, place, 3) : call.answer(x, 3, place);
                boolean isThere = place >= 0 && place <= last;
                Due.isTrue("the place " + place + " of " + (last + 1), isThere == answer >= 0);
            }
        }
    }

    private static void noSuchField(OnField call) {
        int[] far = {-1, Papers.LEAST, Papers.MOST};
        for (int place : far) {
            Due.is("at " + place + ", 0", call.answer(Papers.sized(1, 2), place, 0), PunchedFolds.NO_SUCH);
            Due.is("at 0, " + place, call.answer(Papers.sized(1, 2), 0, place), PunchedFolds.NO_SUCH);
        }
        Due.is("at 8, 0", call.answer(new PunchedFolds(), 8, 0), PunchedFolds.NO_SUCH);
        Due.is("at 0, 8", call.answer(new PunchedFolds(), 0, 8), PunchedFolds.NO_SUCH);
        Due.is("at 4, 0", call.answer(Papers.sized(1, 2), 4, 0), PunchedFolds.NO_SUCH);
        Due.is("at 0, 2", call.answer(Papers.sized(1, 2), 0, 2), PunchedFolds.NO_SUCH);
        Due.is("at 1, 0", call.answer(Papers.smallest(), 1, 0), PunchedFolds.NO_SUCH);
        Due.is("at 0, 1", call.answer(Papers.smallest(), 0, 1), PunchedFolds.NO_SUCH);
    }

    // ---- the terms

    private static void aCellIsInAPatternOnce() {
        PunchedFolds x = Papers.punched(63, 63);
        Due.is("a cell that was punched twice", x.count(0), 1);
        Due.is("the target of it", x.aimHere(), 1);
    }

    private static void noHoleAndAllHoles() {
        PunchedFolds x = Papers.withoutWholeCell();
        for (int row = 0; row < 8; row++) {
            Due.is("a row without holes", new PunchedFolds().holes(row), 0);
            Due.is("a row of holes", x.holes(row), 255);
        }
    }

    private static void mendedCellsAreNotInThePattern() {
        PunchedFolds x = Papers.punched(0, 63);
        x.mend(0, 0);
        x.mend(7, 7);
        Due.is("cells with holes", x.count(0), 0);
        Due.is("holes(0)", x.holes(0), 0);
        Due.is("holes(7)", x.holes(7), 0);
    }

    private static void targetOfNoneAndAll() {
        Due.is("no cell", Papers.aimed(0).count(4), 0);
        Due.is("all cells", Papers.aimedAtAll().count(4), 64);
    }

    private static void emptyTarget() {
        PunchedFolds x = new PunchedFolds();
        for (int row = 0; row < 8; row++) {
            Due.is("target(" + row + ")", x.target(row), 0);
        }
        Due.is("cells of the target", x.count(4), 0);
    }

    private static void pieces(String what, PunchedFolds x, int number, int largest) {
        Due.is(what + ": pieces", x.count(1), number);
        Due.is(what + ": cells of the largest piece", x.count(2), largest);
    }

    private static void besideInARow() {
        pieces("the first two cells", Papers.punchedAllBut(0, 1), 1, 2);
        pieces("the last two cells", Papers.punchedAllBut(62, 63), 1, 2);
        pieces("a row", Papers.punchedAllBut(32, 33, 34, 35, 36, 37, 38, 39), 1, 8);
        pieces("a row with a hole", Papers.punchedAllBut(32, 33, 34, 36, 37, 38, 39), 2, 4);
    }

    private static void besideInAColumn() {
        pieces("the first two of a column", Papers.punchedAllBut(0, 8), 1, 2);
        pieces("the last two of a column", Papers.punchedAllBut(55, 63), 1, 2);
        pieces("a column", Papers.punchedAllBut(7, 15, 23, 31, 39, 47, 55, 63), 1, 8);
        pieces("a column with a hole", Papers.punchedAllBut(7, 15, 23, 39, 47, 55, 63), 2, 4);
    }

    private static void cornersDoNotHangTogether() {
        pieces("down to the right", Papers.punchedAllBut(0, 9), 2, 1);
        pieces("down to the left", Papers.punchedAllBut(7, 14), 2, 1);
        pieces("the last two", Papers.punchedAllBut(54, 63), 2, 1);
    }

    private static void edgesDoNotWrapAround() {
        pieces("the end of a row and the beginning of the next one", Papers.punchedAllBut(7, 8), 2, 1);
        pieces("the last two rows", Papers.punchedAllBut(55, 56), 2, 1);
        pieces("the beginning of a row and the end of the one above it", Papers.punchedAllBut(0, 8, 7), 2, 2);
        pieces("the last two rows, from the lower one", Papers.punchedAllBut(48, 56, 55), 2, 2);
        pieces("both ends of a row", Papers.punchedAllBut(0, 7), 2, 1);
        pieces("both ends of a column", Papers.punchedAllBut(0, 56), 2, 1);
        pieces("the first and the last cell", Papers.punchedAllBut(0, 63), 2, 1);
    }

    private static void wholeCellsBetween() {
        pieces("a way down and up again", Papers.punchedAllBut(0, 8, 16, 17, 18, 10, 2), 1, 7);
        pieces("the way without its middle", Papers.punchedAllBut(0, 8, 16, 18, 10, 2), 2, 3);
        pieces("a way that goes to the left and up", Papers.punchedAllBut(63, 62, 61, 53, 45, 46, 47), 1, 7);
        pieces("the longest way", Papers.punched(9, 10, 11, 12, 13, 14, 15, 24, 25, 26, 27, 28, 29, 30,
                41, 42, 43, 44, 45, 46, 47, 56, 57, 58, 59, 60, 61, 62), 1, 36);
    }

    private static void asLargeAsPossible() {
        pieces("no hole", new PunchedFolds(), 1, 64);
        pieces("a hole in the middle", Papers.punched(27), 1, 63);
        pieces("one whole cell", Papers.punchedAllBut(63), 1, 1);
        pieces("a row of holes", Papers.punched(16, 17, 18, 19, 20, 21, 22, 23), 2, 40);
    }

    private static void foldsDoNotMatter() {
        PunchedFolds x = Papers.punched(3, 11, 19, 27, 35, 43, 51, 59);
        pieces("the open paper", x, 2, 32);
        for (int kind : new int[] {0, 3, 1, 2, 0, 3}) {
            x.fold(kind);
            pieces("after the fold " + kind, x, 2, 32);
        }
    }

    // ---- layer

    private static void uppermostAndLowestLayer() {
        PunchedFolds x = Papers.folded(1, 1, 1, 3, 3, 3);
        Due.is("the uppermost cell of 64", x.layer(0, 0, 0, 0), 8);
        Due.is("the lowest cell", x.layer(0, 0, 63, 0), 0);
        Due.is("the only layer", new PunchedFolds().layer(7, 7, 0, 0), 63);
    }

    private static void partsOfLayers() {
        PunchedFolds x = new PunchedFolds();
        x.ink(7, 0, 4);
        x.fold(1);
        x.ink(0, 0, 3);
        x.punch(0, 0, 1);
        int[][] due = {{7, 1, 1, 3}, {0, 0, 0, 0}};
        for (int i = 0; i < 2; i++) {
            for (int part = 0; part < 4; part++) {
                Due.is("layer(0, 0, " + i + ", " + part + ")", x.layer(0, 0, i, part), due[i][part]);
            }
        }
        x.unfold();
        Due.is("the colour of the front that is up", x.layer(7, 0, 0, 3), 4);
    }

    private static void leastAndMostOfLayers() {
        PunchedFolds x = new PunchedFolds();
        x.ink(7, 7, 5);
        int[] least = {0, 0, 0, 0};
        int[] most = {63, 0, 0, 5};
        for (int part = 0; part < 4; part++) {
            Due.is("layer(0, 0, 0, " + part + ")", x.layer(0, 0, 0, part), least[part]);
            Due.is("layer(7, 7, 0, " + part + ")", x.layer(7, 7, 0, part), most[part]);
        }
    }

    private static void noSuchLayer() {
        for (int folds = 0; folds <= 6; folds++) {
            PunchedFolds x = Papers.sized(folds / 2, folds - folds / 2);
            for (int index : new int[] {-1, 1 << folds, Papers.LEAST, Papers.MOST}) {
                Due.is("the layer " + index, x.layer(0, 0, index, 0), PunchedFolds.NO_SUCH);
            }
            Due.isTrue("the lowest layer", x.layer(0, 0, (1 << folds) - 1, 0) >= 0);
        }
    }

    private static void layerPartOutOfRange() {
        for (int part : new int[] {-1, 4, Papers.LEAST, Papers.MOST}) {
            Due.is("layer(0, 0, 0, " + part + ")", new PunchedFolds().layer(0, 0, 0, part), PunchedFolds.BAD_VALUE);
        }
    }

    // ---- seen

    private static void leastAndMostSeen() {
        PunchedFolds x = new PunchedFolds();
        Due.is("the first cell without a colour", x.seen(0, 0), 0);
        Due.is("the last cell without a colour", x.seen(7, 7), 630);
        x.ink(7, 7, 5);
        Due.is("the last cell with the last colour", x.seen(7, 7), 635);
        x.ink(0, 0, 1);
        Due.is("the first cell with the first colour", x.seen(0, 0), 1);
        x.fold(3);
        Due.is("the back of the last cell", x.seen(7, 0), 630);
    }

    private static void seenThroughHoles() {
        PunchedFolds x = Papers.smallest();
        Due.is("the uppermost layer", x.seen(0, 0), 10 * x.layer(0, 0, 0, 0));
        x.ink(0, 0, 2);
        x.punch(0, 0, 1);
        Due.is("the layer below a hole", x.seen(0, 0), 10 * x.layer(0, 0, 1, 0));
        x.punch(0, 0, 63);
        x.ink(0, 0, 3);
        Due.is("the layer below 63 holes", x.seen(0, 0), 10 * x.layer(0, 0, 63, 0) + 3);
    }

    private static void nothingIsSeen() {
        Due.is("a stack of one hole", Papers.punched(0).seen(0, 0), PunchedFolds.NONE);
        Due.is("a stack beside it", Papers.punched(0).seen(1, 0), 10);
        PunchedFolds x = Papers.smallest();
        x.punch(0, 0, 64);
        Due.is("a stack of 64 holes", x.seen(0, 0), PunchedFolds.NONE);
        x.mend(0, 0);
        Due.is("the cell that was mended", x.seen(0, 0), 10 * x.layer(0, 0, 0, 0));
    }

    // ---- where

    private static void leastAndMostCellOfWhere() {
        PunchedFolds x = new PunchedFolds();
        Due.is("where(0, 0)", x.where(0, 0), 0);
        Due.is("where(63, 0)", x.where(63, 0), 7);
        Due.is("where(63, 1)", x.where(63, 1), 7);
        Due.is("where(-1, 0)", x.where(-1, 0), PunchedFolds.NO_SUCH);
        Due.is("where(64, 0)", x.where(64, 0), PunchedFolds.NO_SUCH);
    }

    private static void partsOfWhere() {
        PunchedFolds x = Papers.folded(1, 2);
        int[] due = {2, 1, 1, 0};
        for (int part = 0; part < 4; part++) {
            Due.is("where(21, " + part + ")", x.where(21, part), due[part]);
        }
        int[] lower = {2, 1, 2, 1};
        for (int part = 0; part < 4; part++) {
            Due.is("where(45, " + part + ")", x.where(45, part), lower[part]);
        }
    }

    private static void whereAndLayerAgree() {
        for (int size = 0; size < 16; size++) {
            PunchedFolds x = Papers.sized(size % 4, size / 4);
            for (int cell = 0; cell < 64; cell++) {
                int c = x.where(cell, 0);
                int r = x.where(cell, 1);
                int i = x.where(cell, 2);
                Due.is("the cell at the place of " + cell, x.layer(c, r, i, 0), cell);
                Due.is("the side of " + cell, x.layer(c, r, i, 1), x.where(cell, 3));
            }
        }
    }

    private static void whereNoCell() {
        for (int cell : new int[] {-1, 64, Papers.LEAST, Papers.MOST}) {
            Due.is("where(" + cell + ", 0)", new PunchedFolds().where(cell, 0), PunchedFolds.NO_SUCH);
            Due.is("where(" + cell + ", 3)", Papers.smallest().where(cell, 3), PunchedFolds.NO_SUCH);
        }
    }

    private static void wherePartOutOfRange() {
        for (int part : new int[] {-1, 4, Papers.LEAST, Papers.MOST}) {
            Due.is("where(0, " + part + ")", new PunchedFolds().where(0, part), PunchedFolds.BAD_VALUE);
        }
    }

    // ---- colour

    private static void leastAndMostCellOfColour() {
        PunchedFolds x = new PunchedFolds();
        x.ink(0, 0, 2);
        x.ink(7, 7, 3);
        Due.is("colour(0, 0)", x.colour(0, 0), 2);
        Due.is("colour(63, 0)", x.colour(63, 0), 3);
        Due.is("colour(-1, 0)", x.colour(-1, 0), PunchedFolds.NO_SUCH);
        Due.is("colour(64, 0)", x.colour(64, 0), PunchedFolds.NO_SUCH);
    }

    private static void bothSides() {
        PunchedFolds x = new PunchedFolds();
        x.ink(7, 7, 1);
        x.fold(1);
        x.ink(0, 7, 2);
        Due.is("the front", x.colour(63, 0), 1);
        Due.is("the back", x.colour(63, 1), 2);
        x.open();
        Due.is("the front of the open paper", x.colour(63, 0), 1);
        Due.is("the back of the open paper", x.colour(63, 1), 2);
    }

    private static void leastAndMostColour() {
        PunchedFolds x = new PunchedFolds();
        Due.is("no colour", x.colour(31, 0), 0);
        x.ink(7, 3, 5);
        Due.is("the colour 5", x.colour(31, 0), 5);
        x.ink(7, 3, 1);
        Due.is("the colour 1", x.colour(31, 0), 1);
    }

    private static void colourOfNoCell() {
        for (int cell : new int[] {-1, 64, Papers.LEAST, Papers.MOST}) {
            Due.is("colour(" + cell + ", 0)", new PunchedFolds().colour(cell, 0), PunchedFolds.NO_SUCH);
            Due.is("colour(" + cell + ", 1)", new PunchedFolds().colour(cell, 1), PunchedFolds.NO_SUCH);
        }
    }

    private static void sideOutOfRange() {
        for (int side : new int[] {-1, 2, Papers.LEAST, Papers.MOST}) {
            Due.is("colour(0, " + side + ")", new PunchedFolds().colour(0, side), PunchedFolds.BAD_VALUE);
            Due.is("colour(63, " + side + ")", new PunchedFolds().colour(63, side), PunchedFolds.BAD_VALUE);
        }
    }

    // ---- holes

    private static void holesOfAFoldedPaper() {
        PunchedFolds x = Papers.smallest();
        x.punch(0, 0, 64);
        Due.is("the first row", x.holes(0), 255);
        Due.is("the last row", x.holes(7), 255);
    }

    private static void firstAndLastRowOfHoles() {
        PunchedFolds x = Papers.punched(2, 61);
        Due.is("holes(0)", x.holes(0), 4);
        Due.is("holes(7)", x.holes(7), 32);
        Due.is("holes(-1)", x.holes(-1), PunchedFolds.NO_SUCH);
        Due.is("holes(8)", x.holes(8), PunchedFolds.NO_SUCH);
    }

    private static void bitsOfHoles() {
        for (int column = 0; column < 8; column++) {
            PunchedFolds x = Papers.punched(column, 56 + column);
            x.aim(0, 255);
            x.aim(1, 255);
            Due.is("the first row with a hole in the column " + column, x.holes(0), 1 << column);
            Due.is("the last row with a hole in the column " + column, x.holes(7), 1 << column);
            Due.is("a row without holes", x.holes(1), 0);
        }
    }

    private static void leastAndMostMaskOfHoles() {
        Due.is("no holes", new PunchedFolds().holes(7), 0);
        Due.is("a row of holes", Papers.punched(56, 57, 58, 59, 60, 61, 62, 63).holes(7), 255);
        Due.is("the row above it", Papers.punched(56, 57, 58, 59, 60, 61, 62, 63).holes(6), 0);
    }

    private static void holesOfNoRow() {
        for (int row : new int[] {-1, 8, Papers.LEAST, Papers.MOST}) {
            Due.is("holes(" + row + ")", Papers.withoutWholeCell().holes(row), PunchedFolds.NO_SUCH);
        }
    }

    // ---- count

    private static void eachWhat() {
        PunchedFolds x = Papers.punched(0, 1, 2, 12, 19);
        x.aim(0, 3);
        x.ink(7, 7, 2);
        x.fold(3);
        x.ink(7, 0, 2);
        x.ink(6, 0, 2);
        int[] due = {5, 1, 59, 3, 2, 3};
        for (int what = 0; what < 6; what++) {
            Due.is("count(" + what + ")", x.count(what), due[what]);
        }
    }

    private static void noPieces() {
        PunchedFolds x = Papers.withoutWholeCell();
        Due.is("pieces without a whole cell", x.count(1), 0);
        Due.is("the largest piece without pieces", x.count(2), 0);
        x.mend(7, 7);
        Due.is("pieces of one whole cell", x.count(1), 1);
        Due.is("the largest piece of one whole cell", x.count(2), 1);
    }

    private static void firstOrLastPieceIsLargest() {
        pieces("the first piece is the largest", Papers.punchedAllBut(0, 1, 2, 5, 63), 3, 3);
        pieces("the one between is the largest", Papers.punchedAllBut(0, 2, 3, 63), 3, 2);
        pieces("the last piece is the largest", Papers.punchedAllBut(0, 2, 55, 63), 3, 2);
        pieces("two are equally large", Papers.punchedAllBut(0, 1, 62, 63), 2, 2);
    }

    private static void colouredSides() {
        PunchedFolds x = new PunchedFolds();
        x.ink(7, 0, 1);
        Due.is("one side", x.count(3), 1);
        x.fold(1);
        x.ink(0, 0, 5);
        Due.is("both sides of a cell", x.count(3), 2);
        x.punch(0, 0, 1);
        Due.is("sides of a cell with a hole", x.count(3), 2);
        x.mend(0, 0);
        Due.is("sides of a cell that was mended", x.count(3), 0);
    }

    private static void justOneOfBoth() {
        PunchedFolds x = Papers.punched(0, 1);
        Due.is("only the pattern", x.count(5), 2);
        x.aim(0, 6);
        Due.is("one in both", x.count(5), 2);
        x.aim(0, 3);
        Due.is("the same", x.count(5), 0);
        x.aim(7, 128);
        Due.is("the last cell in the target alone", x.count(5), 1);
    }

    private static void leastNumbers() {
        PunchedFolds x = new PunchedFolds();
        int[] due = {0, 1, 64, 0, 0, 0};
        for (int what = 0; what < 6; what++) {
            Due.is("count(" + what + ") of a new paper", x.count(what), due[what]);
        }
    }

    private static void mostNumbers() {
        Due.is("all cells have holes", Papers.withoutWholeCell().count(0), 64);
        Due.is("all cells belong to the target", Papers.aimedAtAll().count(4), 64);
        Due.is("all cells belong to just one", Papers.aimedAtAll().count(5), 64);
        PunchedFolds board = new PunchedFolds();
        for (int cell = 0; cell < 64; cell++) {
            if ((cell + cell / 8) % 2 == 0) {
                Papers.punch(board, cell);
            }
        }
        pieces("the most pieces", board, 32, 1);
        Due.is("all sides have colours", allSidesInked().count(3), 128);
    }

    /** The fronts are inked, then the backs of the right half, then those of the left half. */
    private static PunchedFolds allSidesInked() {
        PunchedFolds x = new PunchedFolds();
        for (int cell = 0; cell < 64; cell++) {
            x.ink(cell % 8, cell / 8, 1);
        }
        x.fold(1);
        for (int field = 0; field < 32; field++) {
            x.ink(field % 4, field / 4, 2);
        }
        x.open();
        x.fold(0);
        for (int field = 0; field < 32; field++) {
            x.ink(field % 4, field / 4, 3);
        }
        return x;
    }

    private static void whatOutOfRange() {
        for (int what : new int[] {-1, 6, Papers.LEAST, Papers.MOST}) {
            Due.is("count(" + what + ")", new PunchedFolds().count(what), PunchedFolds.BAD_VALUE);
        }
    }

    // ---- symmetries

    private static void symmetric(int due, int... cells) {
        Due.is("symmetries() of " + java.util.Arrays.toString(cells), Papers.punched(cells).symmetries(), due);
    }

    private static void noHoleAndAllHolesAreSymmetrical() {
        symmetric(15);
        Due.is("symmetries() without a whole cell", Papers.withoutWholeCell().symmetries(), 15);
        Due.is("symmetries() of one whole cell", Papers.punchedAllBut(1).symmetries(), 0);
    }

    private static void onlyColumnsMirrored() {
        symmetric(1, 0, 7);
        symmetric(1, 59, 60);
        symmetric(0, 0, 6);
        symmetric(0, 59, 61);
        symmetric(0, 0, 7, 1);
    }

    private static void onlyRowsMirrored() {
        symmetric(2, 0, 56);
        symmetric(2, 31, 39);
        symmetric(0, 8, 56);
        symmetric(0, 31, 47);
        symmetric(0, 0, 56, 1);
    }

    private static void onlyBothMirrored() {
        symmetric(4, 1, 62);
        symmetric(4, 15, 48);
        symmetric(4, 1, 15, 48, 62);
        symmetric(0, 1, 61);
        symmetric(0, 1, 62, 2);
    }

    private static void bothMirroredWithEach() {
        symmetric(7, 1, 6, 57, 62);
        symmetric(12, 0, 63);
        symmetric(12, 7, 56);
        symmetric(15, 0, 7, 56, 63);
    }

    private static void onlyExchanged() {
        symmetric(8, 0);
        symmetric(8, 63);
        symmetric(8, 7, 56, 0);
        symmetric(8, 1, 8);
        symmetric(8, 55, 62);
        symmetric(0, 7);
        symmetric(0, 1, 16);
    }

    private static void symmetriesOfTheHoles() {
        PunchedFolds x = Papers.punched(0, 7);
        x.aim(3, 5);
        x.ink(4, 4, 1);
        Due.is("ink and target make no difference", x.symmetries(), 1);
        x.fold(2);
        x.fold(0);
        Due.is("folds make no difference", x.symmetries(), 1);
        x.open();
        x.mend(0, 0);
        Due.is("after a mend()", x.symmetries(), 0);
    }
}
