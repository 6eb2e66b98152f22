import java.util.Arrays;

/** The sentences of the terms about the paper and its folds, and promises 1 to 6. */
final class FoldEdges {
    private FoldEdges() {
    }

    static void run() {
        paper();
        foldedPaper();
        fourFolds();
        promises();
    }

    private static void paper() {
        Sentences.of(Sentences.TERMS);
        Sentences.nameNoBoundary("Paper", "Folded paper");
        Sentences.test("The paper has 8 columns and 8 rows of cells, numbered from 0 from the left and from the top",
                FoldEdges::eightColumnsAndRows);
        Sentences.test("the cell in the column c and the row r has the number 8 * r + c", FoldEdges::numbersOfCells);
        Sentences.test("A cell has a front and a back", FoldEdges::frontAndBack);
        Sentences.test("each of these two sides has a colour, 0 (none, at the beginning) to 5",
                FoldEdges::noColourAtTheBeginning, FoldEdges::fiveColours);
        Sentences.test("A cell is whole or has a hole", FoldEdges::wholeOrHole);
        Sentences.test("At the beginning the paper is not folded, the fronts are up, and all cells are whole",
                FoldEdges::theBeginning);
    }

    private static void foldedPaper() {
        Sentences.test("The folded paper has a width and a height, at the beginning 8 and 8, and a field for each of "
                + "so many columns and rows, which are numbered from 0 from the left and from the top",
                FoldEdges::widthAndHeight, FoldEdges::fieldsOfEachSize);
        Sentences.test("Each field has a stack of layers, at the beginning one", FoldEdges::oneLayerAtTheBeginning);
        Sentences.test("a layer is a cell of which one side is up", FoldEdges::eachCellIsInOneLayer);
        Sentences.test("All stacks have the same number of layers, 64 / (width * height)",
                FoldEdges::layersOfEachSize);
        Sentences.test("To turn a stack over is to reverse the order of its layers, and to turn the other side of "
                + "each one up", FoldEdges::turnOneLayer, FoldEdges::turnThirtyTwoLayers);
        Sentences.test("To unfold is to take the latest fold back: the upper half of each stack goes back to where "
                + "it came from, turned over again", FoldEdges::unfoldOneLayer, FoldEdges::unfoldThirtyTwoLayers);
    }

    private static void fourFolds() {
        Sentences.test("There are four folds", FoldEdges::fourAndNoFifth);
        Sentences.test("the width is called w and the height h, as they are before the fold:",
                FoldEdges::extentsBeforeTheFold);
        Sentences.test("0 (left over right), possible if w is greater than 1: the stack of each field in a column c "
                + "less than w / 2 is turned over and laid on the stack in the column w - 1 - c of the same row",
                () -> possibleUntilOne(0), () -> foldsAsTold(0), FoldEdges::leftOverRight);
        Sentences.test("The other columns remain, and are numbered from 0 again", FoldEdges::rightColumnsRemain);
        Sentences.test("1 (right over left), possible if w is greater than 1: the same with the columns c that are "
                + "at least w / 2", () -> possibleUntilOne(1), () -> foldsAsTold(1), FoldEdges::rightOverLeft);
        Sentences.test("the columns less than w / 2 remain", FoldEdges::leftColumnsRemain);
        Sentences.test("2 (top over bottom), possible if h is greater than 1: the stack of each field in a row r "
                + "less than h / 2 is turned over and laid on the stack in the row h - 1 - r of the same column",
                () -> possibleUntilOne(2), () -> foldsAsTold(2), FoldEdges::topOverBottom);
        Sentences.test("The other rows remain, and are numbered from 0 again", FoldEdges::lowerRowsRemain);
        Sentences.test("3 (bottom over top), possible if h is greater than 1: the same with the rows r that are at "
                + "least h / 2", () -> possibleUntilOne(3), () -> foldsAsTold(3), FoldEdges::bottomOverTop);
        Sentences.test("the rows less than h / 2 remain", FoldEdges::upperRowsRemain);
    }

    private static void promises() {
        Sentences.of(1);
        Sentences.test("`PunchedFolds()`: Creates a paper that is not folded, without holes and ink, and with an "
                + "empty target", FoldEdges::newObject, FoldEdges::newObjectHoldsNothingElse);
        Sentences.of(2);
        Sentences.test("`int fold(int fold)`: Folds the paper", FoldEdges::foldsThePaper);
        Sentences.test("Undoable", FoldEdges::foldIsUndoable);
        Sentences.test("`fold`: 0 to 3", FoldEdges::leastAndMostFold);
        Sentences.test("Returns the number of layers of each stack then", FoldEdges::layersAfterFolds);
        Sentences.test("BAD_VALUE if fold is out of range", FoldEdges::foldOutOfRange);
        Sentences.test("NOT_POSSIBLE if this fold is not possible", FoldEdges::foldNotPossible);
        Sentences.of(3);
        Sentences.test("`int unfold()`: Unfolds the paper by one fold", FoldEdges::unfoldsByOne);
        Sentences.test("Undoable", FoldEdges::unfoldIsUndoable);
        Sentences.test("Returns the fold that is taken back", FoldEdges::unfoldAnswersTheLatest);
        Sentences.test("NOT_POSSIBLE if the paper is not folded", FoldEdges::unfoldNotPossible);
        Sentences.of(4);
        Sentences.test("`int open()`: Unfolds the paper completely", FoldEdges::opensCompletely);
        Sentences.test("Undoable", FoldEdges::openIsUndoable);
        Sentences.test("Returns the number of folds that are taken back", FoldEdges::openAnswersFolds);
        Sentences.of(5);
        Sentences.test("`int size(int part)`: Returns something about the folded paper", FoldEdges::sizeOnlyLooks);
        Sentences.test("`part`: 0 for its width, 1 for its height, 2 for the number of layers of each stack, 3 for "
                + "the number of folds", FoldEdges::leastAndMostPart);
        Sentences.test("Returns the number", FoldEdges::sizesOfTheSmallest);
        Sentences.test("BAD_VALUE if part is out of range", FoldEdges::partOutOfRange);
        Sentences.of(6);
        Sentences.test("`int foldAt(int index)`: Returns one of the folds that were made and not taken back",
                FoldEdges::foldAtAfterUnfold);
        Sentences.test("`index`: 0 for the first one", FoldEdges::foldAtTheFirst);
        Sentences.test("Returns the fold", FoldEdges::foldAtEach);
        Sentences.test("NO_SUCH if there is no such fold", FoldEdges::noFoldAt);
    }

    // ---- the paper

    private static void eightColumnsAndRows() {
        PunchedFolds x = new PunchedFolds();
        for (int far : new int[] {-1, 8}) {
            Due.is("seen(" + far + ", 7)", x.seen(far, 7), PunchedFolds.NO_SUCH);
            Due.is("seen(7, " + far + ")", x.seen(7, far), PunchedFolds.NO_SUCH);
        }
        Due.is("the cell at the left and the top", x.layer(0, 0, 0, 0), 0);
        Due.is("the cell at the right and the top", x.layer(7, 0, 0, 0), 7);
        Due.is("the cell at the left and the bottom", x.layer(0, 7, 0, 0), 56);
        Due.is("the cell at the right and the bottom", x.layer(7, 7, 0, 0), 63);
    }

    private static void numbersOfCells() {
        PunchedFolds x = new PunchedFolds();
        for (int r = 0; r < 8; r++) {
            for (int c = 0; c < 8; c++) {
                Due.is("the cell at " + c + ", " + r, x.layer(c, r, 0, 0), 8 * r + c);
            }
        }
    }

    private static void frontAndBack() {
        PunchedFolds x = new PunchedFolds();
        x.ink(7, 0, 1);
        x.fold(1);
        x.ink(0, 0, 2);
        Due.is("the front", x.colour(7, 0), 1);
        Due.is("the back", x.colour(7, 1), 2);
        Due.is("a third side", x.colour(7, 2), PunchedFolds.BAD_VALUE);
        Due.is("a side ahead of the front", x.colour(7, -1), PunchedFolds.BAD_VALUE);
    }

    private static void noColourAtTheBeginning() {
        PunchedFolds x = new PunchedFolds();
        for (int cell = 0; cell < 64; cell++) {
            Due.is("the front of " + cell, x.colour(cell, 0), 0);
            Due.is("the back of " + cell, x.colour(cell, 1), 0);
        }
    }

    private static void fiveColours() {
        PunchedFolds x = new PunchedFolds();
        for (int colour = 1; colour <= 5; colour++) {
            x.ink(0, 0, colour);
            Due.is("the colour", x.colour(0, 0), colour);
        }
        x.ink(0, 0, 6);
        Due.is("the colour after ink of no colour", x.colour(0, 0), 5);
        x.ink(0, 0, 0);
        Due.is("the colour after ink of the colour 0", x.colour(0, 0), 5);
    }

    private static void wholeOrHole() {
        PunchedFolds x = new PunchedFolds();
        Due.is("a whole cell", x.layer(3, 3, 0, 2), 0);
        x.punch(3, 3, 1);
        Due.is("a cell with a hole", x.layer(3, 3, 0, 2), 1);
        x.punch(3, 3, 1);
        Due.is("a second hole makes no difference", x.layer(3, 3, 0, 2), 1);
        Due.is("the number of holes", x.count(0), 1);
    }

    private static void theBeginning() {
        PunchedFolds x = new PunchedFolds();
        Due.is("folds", x.size(3), 0);
        for (int cell = 0; cell < 64; cell++) {
            Due.is("the side of " + cell + " that is up", x.layer(cell % 8, cell / 8, 0, 1), 0);
            Due.is("the hole of " + cell, x.layer(cell % 8, cell / 8, 0, 2), 0);
        }
    }

    // ---- the folded paper

    private static void widthAndHeight() {
        PunchedFolds x = new PunchedFolds();
        Due.is("the width at the beginning", x.size(0), 8);
        Due.is("the height at the beginning", x.size(1), 8);
    }

    private static void fieldsOfEachSize() {
        for (int across = 0; across < 4; across++) {
            for (int down = 0; down < 4; down++) {
                PunchedFolds x = Papers.sized(across, down);
                int w = 8 >> across;
                int h = 8 >> down;
                Due.is("the width", x.size(0), w);
                Due.is("the height", x.size(1), h);
                Due.isTrue("the first field is there", x.seen(0, 0) >= 0);
                Due.isTrue("the last field is there", x.seen(w - 1, h - 1) >= 0);
                Due.is("a column ahead of the first one", x.seen(-1, 0), PunchedFolds.NO_SUCH);
                Due.is("a row ahead of the first one", x.seen(0, -1), PunchedFolds.NO_SUCH);
                Due.is("a column behind the last one", x.seen(w, h - 1), PunchedFolds.NO_SUCH);
                Due.is("a row behind the last one", x.seen(w - 1, h), PunchedFolds.NO_SUCH);
            }
        }
    }

    private static void oneLayerAtTheBeginning() {
        PunchedFolds x = new PunchedFolds();
        Due.is("layers", x.size(2), 1);
        for (int cell = 0; cell < 64; cell++) {
            Due.is("the first layer", x.layer(cell % 8, cell / 8, 0, 0), cell);
            Due.is("a second layer", x.layer(cell % 8, cell / 8, 1, 0), PunchedFolds.NO_SUCH);
        }
    }

    private static void eachCellIsInOneLayer() {
        for (int across = 0; across < 4; across++) {
            for (int down = 0; down < 4; down++) {
                boolean[] there = new boolean[64];
                for (int[] stack : stacks(Papers.sized(across, down))) {
                    for (int side : stack) {
                        Due.isTrue("a side is 0 or 1, a cell 0 to 63", side >= 0 && side < 128);
                        Due.isTrue("the cell is in no other layer", !there[side / 2 & 63]);
                        there[side / 2 & 63] = true;
                    }
                }
            }
        }
    }

    private static void layersOfEachSize() {
        for (int across = 0; across < 4; across++) {
            for (int down = 0; down < 4; down++) {
                PunchedFolds x = Papers.sized(across, down);
                int w = 8 >> across;
                int h = 8 >> down;
                int layers = 64 / (w * h);
                Due.is("layers", x.size(2), layers);
                for (int field = 0; field < w * h; field++) {
                    Due.isTrue("the lowest layer is there", x.layer(field % w, field / w, layers - 1, 0) >= 0);
                    Due.is("a layer below it", x.layer(field % w, field / w, layers, 0), PunchedFolds.NO_SUCH);
                }
            }
        }
    }

    private static void turnOneLayer() {
        PunchedFolds x = Papers.folded(0);
        Due.is("the layer that was turned over", x.layer(0, 0, 0, 0), 3);
        Due.is("its back is up", x.layer(0, 0, 0, 1), 1);
        Due.is("the layer below it", x.layer(0, 0, 1, 0), 4);
        Due.is("its front is up", x.layer(0, 0, 1, 1), 0);
    }

    private static void turnThirtyTwoLayers() {
        PunchedFolds ahead = Papers.sized(2, 3);
        PunchedFolds x = Papers.sized(2, 3);
        x.fold(1);
        for (int i = 0; i < 32; i++) {
            Due.is("the cell " + i + " is in reverse order", x.layer(0, 0, i, 0), ahead.layer(1, 0, 31 - i, 0));
            Due.is("its other side is up", x.layer(0, 0, i, 1), 1 - ahead.layer(1, 0, 31 - i, 1));
            Due.is("the cell " + (32 + i) + " remains", x.layer(0, 0, 32 + i, 0), ahead.layer(0, 0, i, 0));
            Due.is("its side remains", x.layer(0, 0, 32 + i, 1), ahead.layer(0, 0, i, 1));
        }
    }

    private static void unfoldOneLayer() {
        for (int kind = 0; kind < 4; kind++) {
            PunchedFolds x = Papers.folded(kind);
            x.unfold();
            Due.isTrue("unfold() of the fold " + kind + " brings the open paper back",
                    Arrays.deepEquals(stacks(new PunchedFolds()), stacks(x)));
        }
    }

    private static void unfoldThirtyTwoLayers() {
        int[][] lasts = {{2, 3, 0}, {2, 3, 1}, {3, 2, 2}, {3, 2, 3}};
        for (int[] last : lasts) {
            PunchedFolds x = Papers.sized(last[0], last[1]);
            x.fold(last[2]);
            x.unfold();
            Due.isTrue("unfold() from 64 layers",
                    Arrays.deepEquals(stacks(Papers.sized(last[0], last[1])), stacks(x)));
        }
    }

    /** The stacks of all fields, row by row, from the uppermost layer down: 2 * cell + the side that is up. */
    private static int[][] stacks(PunchedFolds x) {
        int w = x.size(0);
        int[][] stacks = new int[w * x.size(1)][x.size(2)];
        for (int field = 0; field < stacks.length; field++) {
            for (int i = 0; i < stacks[field].length; i++) {
                stacks[field][i] = 2 * x.layer(field % w, field / w, i, 0) + x.layer(field % w, field / w, i, 1);
            }
        }
        return stacks;
    }

    // ---- the four folds

    private static void fourAndNoFifth() {
        for (int kind = 0; kind < 4; kind++) {
            Due.is("fold(" + kind + ")", new PunchedFolds().fold(kind), 2);
        }
        Due.is("fold(4)", new PunchedFolds().fold(4), PunchedFolds.BAD_VALUE);
        Due.is("fold(-1)", new PunchedFolds().fold(-1), PunchedFolds.BAD_VALUE);
    }

    private static void extentsBeforeTheFold() {
        // At the width 4 the column 1 is laid on the column 2; at the width 8 it would have been on the column 6.
        Due.is("a second fold across", Papers.folded(1, 0).layer(0, 0, 1, 0), 6);
        Due.is("a second fold down", Papers.folded(3, 2).layer(0, 0, 1, 0), 48);
    }

    /** A fold is possible at 8, 4 and 2 columns or rows, and not at 1, whatever the other extent is. */
    private static void possibleUntilOne(int kind) {
        for (int own = 0; own < 4; own++) {
            for (int other = 0; other < 4; other++) {
                PunchedFolds x = kind < 2 ? Papers.sized(own, other) : Papers.sized(other, own);
                int due = own == 3 ? PunchedFolds.NOT_POSSIBLE : 2 << own + other;
                Due.is("fold(" + kind + ") after " + own + " folds of its way", x.fold(kind), due);
            }
        }
    }

    /** Compares all stacks behind a fold with what the sentence makes of the stacks ahead of it. */
    private static void foldsAsTold(int kind) {
        for (int own = 0; own < 3; own++) {
            for (int other = 0; other < 4; other++) {
                PunchedFolds x = kind < 2 ? Papers.sized(own, other) : Papers.sized(other, own);
                int[][] due = folded(kind, x.size(0), x.size(1), stacks(x));
                x.fold(kind);
                Due.isTrue("all stacks after the fold " + kind, Arrays.deepEquals(due, stacks(x)));
            }
        }
    }

    private static int[][] folded(int kind, int w, int h, int[][] stacks) {
        int width = kind < 2 ? w / 2 : w;
        int height = kind < 2 ? h : h / 2;
        int[][] folded = new int[width * height][];
        for (int r = 0; r < height; r++) {
            for (int c = 0; c < width; c++) {
                int column = kind == 0 ? w / 2 + c : c;
                int row = kind == 2 ? h / 2 + r : r;
                int[] remaining = stacks[w * row + column];
                int[] moved = stacks[kind < 2 ? w * row + w - 1 - column : w * (h - 1 - row) + column];
                folded[width * r + c] = laidOn(moved, remaining);
            }
        }
        return folded;
    }

    private static int[] laidOn(int[] moved, int[] remaining) {
        int[] stack = new int[moved.length + remaining.length];
        for (int i = 0; i < moved.length; i++) {
            stack[i] = moved[moved.length - 1 - i] ^ 1;
            stack[moved.length + i] = remaining[i];
        }
        return stack;
    }

    private static void place(String what, PunchedFolds x, int cell, int column, int row, int index, int side) {
        int[] due = {column, row, index, side};
        for (int part = 0; part < 4; part++) {
            Due.is(what + ": where(" + cell + ", " + part + ")", x.where(cell, part), due[part]);
        }
    }

    private static void leftOverRight() {
        PunchedFolds x = Papers.folded(0);
        place("the first column that moves", x, 16, 3, 2, 0, 1);
        place("the last column that moves", x, 19, 0, 2, 0, 1);
        PunchedFolds y = Papers.folded(0, 0, 0);
        place("the only column that moves of two", y, 6, 0, 0, 0, 1);
    }

    private static void rightColumnsRemain() {
        PunchedFolds x = Papers.folded(0);
        place("the first column that remains", x, 20, 0, 2, 1, 0);
        place("the last column that remains", x, 23, 3, 2, 1, 0);
        Due.is("a column behind it", x.seen(4, 2), PunchedFolds.NO_SUCH);
        Due.is("the only column that remains of two", Papers.folded(0, 0, 0).where(7, 0), 0);
    }

    private static void rightOverLeft() {
        PunchedFolds x = Papers.folded(1);
        place("the first column that moves", x, 20, 3, 2, 0, 1);
        place("the last column that moves", x, 23, 0, 2, 0, 1);
        place("the only column that moves of two", Papers.folded(1, 1, 1), 1, 0, 0, 0, 1);
    }

    private static void leftColumnsRemain() {
        PunchedFolds x = Papers.folded(1);
        place("the first column that remains", x, 16, 0, 2, 1, 0);
        place("the last column that remains", x, 19, 3, 2, 1, 0);
        Due.is("a column behind it", x.seen(4, 2), PunchedFolds.NO_SUCH);
        Due.is("the only column that remains of two", Papers.folded(1, 1, 1).where(0, 0), 0);
    }

    private static void topOverBottom() {
        PunchedFolds x = Papers.folded(2);
        place("the first row that moves", x, 2, 2, 3, 0, 1);
        place("the last row that moves", x, 26, 2, 0, 0, 1);
        place("the only row that moves of two", Papers.folded(2, 2, 2), 48, 0, 0, 0, 1);
    }

    private static void lowerRowsRemain() {
        PunchedFolds x = Papers.folded(2);
        place("the first row that remains", x, 34, 2, 0, 1, 0);
        place("the last row that remains", x, 58, 2, 3, 1, 0);
        Due.is("a row behind it", x.seen(2, 4), PunchedFolds.NO_SUCH);
        Due.is("the only row that remains of two", Papers.folded(2, 2, 2).where(56, 1), 0);
    }

    private static void bottomOverTop() {
        PunchedFolds x = Papers.folded(3);
        place("the first row that moves", x, 34, 2, 3, 0, 1);
        place("the last row that moves", x, 58, 2, 0, 0, 1);
        place("the only row that moves of two", Papers.folded(3, 3, 3), 8, 0, 0, 0, 1);
    }

    private static void upperRowsRemain() {
        PunchedFolds x = Papers.folded(3);
        place("the first row that remains", x, 2, 2, 0, 1, 0);
        place("the last row that remains", x, 26, 2, 3, 1, 0);
        Due.is("a row behind it", x.seen(2, 4), PunchedFolds.NO_SUCH);
        Due.is("the only row that remains of two", Papers.folded(3, 3, 3).where(0, 1), 0);
    }

    // ---- promises 1 to 6

    private static void newObject() {
        PunchedFolds x = new PunchedFolds();
        Due.is("folds", x.size(3), 0);
        Due.is("a first fold", x.foldAt(0), PunchedFolds.NO_SUCH);
        Due.is("cells with holes", x.count(0), 0);
        Due.is("sides with a colour", x.count(3), 0);
        Due.is("cells of the target", x.count(4), 0);
    }

    private static void newObjectHoldsNothingElse() {
        Papers.full();
        Due.is("an empty buffer", new PunchedFolds().clearText(), 0);
        Due.is("nothing recorded", new PunchedFolds().undo(), PunchedFolds.NOT_POSSIBLE);
        Due.is("nothing saved", new PunchedFolds().restore(), PunchedFolds.NOT_POSSIBLE);
        Due.is("no folds of another object", new PunchedFolds().unfold(), PunchedFolds.NOT_POSSIBLE);
    }

    private static void foldsThePaper() {
        PunchedFolds x = new PunchedFolds();
        x.fold(3);
        Due.is("folds", x.size(3), 1);
        Due.is("the height", x.size(1), 4);
        Due.is("the width", x.size(0), 8);
    }

    private static void foldIsUndoable() {
        for (int kind = 0; kind < 4; kind++) {
            int fold = kind;
            Due.recorded("a first fold", PunchedFolds::new, x -> x.fold(fold), 2);
            Due.recorded("a fold among others", Papers::full, x -> x.fold(fold), 8);
        }
        Due.recorded("a sixth fold", () -> Papers.sized(2, 3), x -> x.fold(1), 64);
    }

    private static void leastAndMostFold() {
        PunchedFolds x = Papers.folded(0, 3);
        Due.is("the least fold", x.foldAt(0), 0);
        Due.is("the most one", x.foldAt(1), 3);
    }

    private static void layersAfterFolds() {
        PunchedFolds x = new PunchedFolds();
        int[] kinds = {1, 2, 0, 3, 2, 1};
        for (int i = 0; i < kinds.length; i++) {
            Due.is("the fold " + i, x.fold(kinds[i]), 2 << i);
        }
    }

    private static void foldOutOfRange() {
        for (int fold : new int[] {-1, 4, Papers.LEAST, Papers.MOST}) {
            Due.is("fold(" + fold + ")", new PunchedFolds().fold(fold), PunchedFolds.BAD_VALUE);
        }
    }

    private static void foldNotPossible() {
        PunchedFolds narrow = Papers.sized(3, 0);
        Due.is("fold(0) at the width 1", narrow.fold(0), PunchedFolds.NOT_POSSIBLE);
        Due.is("fold(1) at the width 1", narrow.fold(1), PunchedFolds.NOT_POSSIBLE);
        Due.is("fold(2) at the width 1 and the height 8", narrow.fold(2), 16);
        PunchedFolds flat = Papers.sized(0, 3);
        Due.is("fold(2) at the height 1", flat.fold(2), PunchedFolds.NOT_POSSIBLE);
        Due.is("fold(3) at the height 1", flat.fold(3), PunchedFolds.NOT_POSSIBLE);
        Due.is("fold(0) at the height 1 and the width 8", flat.fold(0), 16);
        for (int kind = 0; kind < 4; kind++) {
            Due.is("fold(" + kind + ") of the smallest paper", Papers.smallest().fold(kind),
                    PunchedFolds.NOT_POSSIBLE);
        }
    }

    private static void unfoldsByOne() {
        PunchedFolds x = Papers.smallest();
        for (int folds = 5; folds >= 0; folds--) {
            x.unfold();
            Due.is("folds after unfold()", x.size(3), folds);
            Due.is("layers after unfold()", x.size(2), 1 << folds);
        }
    }

    private static void unfoldIsUndoable() {
        Due.recorded("unfold() of one fold", () -> Papers.folded(2), PunchedFolds::unfold, 2);
        Due.recorded("unfold() of six folds", Papers::smallest, PunchedFolds::unfold, 3);
        Due.recorded("unfold()", Papers::full, PunchedFolds::unfold, 1);
    }

    private static void unfoldAnswersTheLatest() {
        PunchedFolds x = Papers.folded(3, 0, 1, 2);
        for (int due : new int[] {2, 1, 0, 3}) {
            Due.is("unfold()", x.unfold(), due);
        }
    }

    private static void unfoldNotPossible() {
        Due.is("unfold() of a new paper", new PunchedFolds().unfold(), PunchedFolds.NOT_POSSIBLE);
        PunchedFolds x = Papers.folded(1);
        x.unfold();
        Due.is("unfold() after the last one", x.unfold(), PunchedFolds.NOT_POSSIBLE);
        PunchedFolds y = Papers.smallest();
        y.open();
        Due.is("unfold() after open()", y.unfold(), PunchedFolds.NOT_POSSIBLE);
        PunchedFolds z = Papers.folded(1);
        z.undo();
        Due.is("unfold() after the undo() of a fold", z.unfold(), PunchedFolds.NOT_POSSIBLE);
    }

    private static void opensCompletely() {
        PunchedFolds x = Papers.smallest();
        x.open();
        Due.is("folds", x.size(3), 0);
        Due.is("the width", x.size(0), 8);
        Due.is("the height", x.size(1), 8);
        Due.isTrue("all cells are where they were at the beginning",
                Arrays.deepEquals(stacks(new PunchedFolds()), stacks(x)));
    }

    private static void openIsUndoable() {
        Due.recorded("open() of a paper that is not folded", () -> Papers.punched(5), PunchedFolds::open, 0);
        Due.recorded("open() of six folds", Papers::smallest, PunchedFolds::open, 6);
        Due.recorded("open()", Papers::full, PunchedFolds::open, 2);
    }

    private static void openAnswersFolds() {
        Due.is("open() without a fold", new PunchedFolds().open(), 0);
        Due.is("open() of one fold", Papers.folded(2).open(), 1);
        Due.is("open() of six folds", Papers.smallest().open(), 6);
        PunchedFolds x = Papers.folded(0, 1);
        x.open();
        Due.is("open() after open()", x.open(), 0);
    }

    private static void sizeOnlyLooks() {
        Due.onlyLooks("size(0)", Papers::full, x -> x.size(0), 4);
        Due.onlyLooks("size(3)", Papers::full, x -> x.size(3), 2);
    }

    private static void leastAndMostPart() {
        PunchedFolds x = Papers.folded(1, 2, 2);
        Due.is("the width", x.size(0), 4);
        Due.is("the height", x.size(1), 2);
        Due.is("the layers", x.size(2), 8);
        Due.is("the folds", x.size(3), 3);
    }

    private static void sizesOfTheSmallest() {
        int[] due = {1, 1, 64, 6};
        for (int part = 0; part < 4; part++) {
            Due.is("size(" + part + ") of the smallest paper", Papers.smallest().size(part), due[part]);
        }
    }

    private static void partOutOfRange() {
        for (int part : new int[] {-1, 4, Papers.LEAST, Papers.MOST}) {
            Due.is("size(" + part + ")", new PunchedFolds().size(part), PunchedFolds.BAD_VALUE);
        }
    }

    private static void foldAtAfterUnfold() {
        PunchedFolds x = Papers.folded(3, 1, 2);
        x.unfold();
        Due.is("foldAt(1)", x.foldAt(1), 1);
        Due.is("the fold that was taken back", x.foldAt(2), PunchedFolds.NO_SUCH);
        x.fold(0);
        Due.is("the fold that was made in its place", x.foldAt(2), 0);
        x.open();
        Due.is("foldAt(0) after open()", x.foldAt(0), PunchedFolds.NO_SUCH);
    }

    private static void foldAtTheFirst() {
        Due.is("foldAt(0) of one fold", Papers.folded(3).foldAt(0), 3);
        Due.is("foldAt(0) of two folds", Papers.folded(2, 1).foldAt(0), 2);
    }

    private static void foldAtEach() {
        int[] kinds = {2, 0, 3, 1, 0, 2};
        PunchedFolds x = Papers.folded(kinds);
        for (int i = 0; i < kinds.length; i++) {
            Due.is("foldAt(" + i + ")", x.foldAt(i), kinds[i]);
        }
    }

    private static void noFoldAt() {
        for (int index : new int[] {-1, 0, Papers.LEAST, Papers.MOST}) {
            Due.is("foldAt(" + index + ") without a fold", new PunchedFolds().foldAt(index), PunchedFolds.NO_SUCH);
        }
        for (int index : new int[] {-1, 6, 7, Papers.LEAST, Papers.MOST}) {
            Due.is("foldAt(" + index + ") of six folds", Papers.smallest().foldAt(index), PunchedFolds.NO_SUCH);
        }
        Due.is("foldAt(2) of two folds", Papers.folded(2, 1).foldAt(2), PunchedFolds.NO_SUCH);
        Due.is("foldAt(1) of two folds", Papers.folded(2, 1).foldAt(1), 1);
    }
}
