/** The sentences of the terms about holes and ink, and promises 7 to 9. */
final class HoleEdges {
    private HoleEdges() {
    }

    static void run() {
        terms();
        punch();
        ink();
        mend();
    }

    private static void terms() {
        Sentences.of(Sentences.TERMS);
        Sentences.nameNoBoundary("Holes and ink");
        Sentences.test("To punch a field to a depth of n layers is to make holes in the cells of its n uppermost "
                + "layers", HoleEdges::depthOfOne, HoleEdges::depthOfSixtyFour, HoleEdges::depthBetween);
        Sentences.test("the sides of a cell keep their colours when it gets a hole", HoleEdges::bothSidesKeepColours);
        Sentences.test("Ink that is dropped on a field falls through cells with holes",
                HoleEdges::inkFallsThroughSixtyThree, HoleEdges::inkFallsOnlyThroughHoles);
        Sentences.test("the upper side of the uppermost layer without a hole gets its colour, in place of the one "
                + "that it had", HoleEdges::inkOnEachUpperSide, HoleEdges::inkInPlaceOfAnother);
        Sentences.test("To mend a field is to make the cell of its uppermost layer whole",
                HoleEdges::mendTheUppermostOnly);
        Sentences.test("both sides of this cell have the colour 0 then", HoleEdges::mendTakesBothColours);
    }

    private static void punch() {
        Sentences.of(7);
        Sentences.test("`int punch(int column, int row, int depth)`: Punches a field", HoleEdges::punchesOneField);
        Sentences.test("Undoable", HoleEdges::punchIsUndoable);
        Sentences.test("`column`: column of the field", HoleEdges::leastAndMostColumnOfPunch);
        Sentences.test("`row`: row of the field", HoleEdges::leastAndMostRowOfPunch);
        Sentences.test("`depth`: 1 to the number of layers of its stack", HoleEdges::leastAndMostDepth);
        Sentences.test("Returns the number of cells that were whole and have a hole then", HoleEdges::newHoles);
        Sentences.test("NO_SUCH if there is no such field", HoleEdges::punchOfNoField);
        Sentences.test("BAD_VALUE if depth is out of range", HoleEdges::depthOutOfRange);
    }

    private static void ink() {
        Sentences.of(8);
        Sentences.test("`int ink(int column, int row, int colour)`: Drops ink on a field", HoleEdges::inksOneField);
        Sentences.test("Undoable", HoleEdges::inkIsUndoable);
        Sentences.test("`column`: column of the field", HoleEdges::leastAndMostColumnOfInk);
        Sentences.test("`row`: row of the field", HoleEdges::leastAndMostRowOfInk);
        Sentences.test("`colour`: 1 to 5", HoleEdges::leastAndMostColour);
        Sentences.test("Returns the number of the cell that gets the colour, NONE if all cells of the stack have "
                + "holes", HoleEdges::cellThatGetsTheColour, HoleEdges::noneGetsTheColour);
        Sentences.test("NO_SUCH if there is no such field", HoleEdges::inkOfNoField);
        Sentences.test("BAD_VALUE if colour is out of range", HoleEdges::colourOutOfRange);
    }

    private static void mend() {
        Sentences.of(9);
        Sentences.test("`int mend(int column, int row)`: Mends a field", HoleEdges::mendsOneField);
        Sentences.test("Undoable", HoleEdges::mendIsUndoable);
        Sentences.test("`column`: column of the field", HoleEdges::leastAndMostColumnOfMend);
        Sentences.test("`row`: row of the field", HoleEdges::leastAndMostRowOfMend);
        Sentences.test("Returns the number of the cell", HoleEdges::cellThatIsMended);
        Sentences.test("NO_SUCH if there is no such field", HoleEdges::mendOfNoField);
        Sentences.test("NOT_POSSIBLE if this cell has no hole", HoleEdges::mendOfAWholeCell,
                HoleEdges::mendOfAWholeCellAboveHoles);
    }

    // ---- the terms

    private static void depthOfOne() {
        PunchedFolds x = Papers.smallest();
        int cell = x.layer(0, 0, 0, 0);
        x.punch(0, 0, 1);
        Due.is("holes", x.count(0), 1);
        Due.is("the uppermost layer has one", x.layer(0, 0, 0, 2), 1);
        Due.is("the second layer has none", x.layer(0, 0, 1, 2), 0);
        x.open();
        Due.is("the cell has it on the open paper", x.layer(cell % 8, cell / 8, 0, 2), 1);
    }

    private static void depthOfSixtyFour() {
        PunchedFolds x = Papers.smallest();
        x.punch(0, 0, 64);
        Due.is("holes of the depth 64", x.count(0), 64);
        PunchedFolds y = Papers.smallest();
        y.punch(0, 0, 63);
        Due.is("holes of the depth 63", y.count(0), 63);
        Due.is("the lowest layer has none", y.layer(0, 0, 63, 2), 0);
        Due.is("the layer above it has one", y.layer(0, 0, 62, 2), 1);
    }

    private static void depthBetween() {
        for (int depth = 1; depth <= 8; depth++) {
            PunchedFolds x = Papers.sized(1, 2);
            x.punch(2, 1, depth);
            for (int i = 0; i < 8; i++) {
                Due.is("the hole of the layer " + i, x.layer(2, 1, i, 2), i < depth ? 1 : 0);
            }
            Due.is("holes of the depth " + depth, x.count(0), depth);
        }
    }

    /** The cell 7 with the colour 1 on its front and 2 on its back, uppermost and with its back up. */
    private static PunchedFolds bothSidesInked() {
        PunchedFolds x = new PunchedFolds();
        x.ink(7, 0, 1);
        x.fold(1);
        x.ink(0, 0, 2);
        return x;
    }

    private static void bothSidesKeepColours() {
        PunchedFolds x = bothSidesInked();
        x.punch(0, 0, 1);
        Due.is("the hole", x.layer(0, 0, 0, 2), 1);
        Due.is("the front", x.colour(7, 0), 1);
        Due.is("the back", x.colour(7, 1), 2);
        Due.is("the layer", x.layer(0, 0, 0, 3), 2);
    }

    private static void inkFallsThroughSixtyThree() {
        PunchedFolds x = Papers.smallest();
        x.punch(0, 0, 63);
        int lowest = x.layer(0, 0, 63, 0);
        Due.is("ink on the lowest layer", x.ink(0, 0, 4), lowest);
        Due.is("its colour", x.layer(0, 0, 63, 3), 4);
        Due.is("sides with a colour", x.count(3), 1);
    }

    private static void inkFallsOnlyThroughHoles() {
        PunchedFolds x = Papers.sized(2, 0);
        int upper = x.layer(1, 5, 0, 0);
        Due.is("ink on a stack without holes", x.ink(1, 5, 4), upper);
        x.punch(1, 5, 2);
        Due.is("ink on the third layer", x.ink(1, 5, 3), x.layer(1, 5, 2, 0));
        x.mend(1, 5);
        Due.is("ink on a whole layer above a hole", x.ink(1, 5, 2), upper);
    }

    private static void inkOnEachUpperSide() {
        PunchedFolds x = Papers.folded(1);
        x.ink(0, 0, 3);
        Due.is("the back that is up", x.colour(7, 1), 3);
        Due.is("the front that is down", x.colour(7, 0), 0);
        x.punch(0, 0, 1);
        x.ink(0, 0, 4);
        Due.is("the front that is up", x.colour(0, 0), 4);
        Due.is("the back that is down", x.colour(0, 1), 0);
    }

    private static void inkInPlaceOfAnother() {
        PunchedFolds x = bothSidesInked();
        x.ink(0, 0, 5);
        Due.is("the new colour of the back", x.colour(7, 1), 5);
        Due.is("the front", x.colour(7, 0), 1);
        Due.is("sides with a colour", x.count(3), 2);
        x.ink(0, 0, 1);
        Due.is("a lower colour in place of a higher one", x.colour(7, 1), 1);
    }

    private static void mendTheUppermostOnly() {
        PunchedFolds x = Papers.smallest();
        x.punch(0, 0, 64);
        x.mend(0, 0);
        Due.is("the uppermost layer", x.layer(0, 0, 0, 2), 0);
        Due.is("the second layer", x.layer(0, 0, 1, 2), 1);
        Due.is("holes", x.count(0), 63);
    }

    private static void mendTakesBothColours() {
        PunchedFolds x = bothSidesInked();
        x.punch(0, 0, 2);
        x.unfold();
        x.mend(0, 0);
        x.ink(0, 0, 4);
        x.punch(0, 0, 1);
        x.fold(1);
        x.mend(0, 0);
        Due.is("the front", x.colour(7, 0), 0);
        Due.is("the back", x.colour(7, 1), 0);
        Due.is("the layer below it keeps its colour", x.colour(0, 0), 4);
    }

    // ---- punch

    private static void punchesOneField() {
        PunchedFolds x = Papers.sized(1, 1);
        x.punch(3, 0, 4);
        for (int field = 0; field < 16; field++) {
            for (int i = 0; i < 4; i++) {
                Due.is("the hole of a layer", x.layer(field % 4, field / 4, i, 2), field == 3 ? 1 : 0);
            }
        }
    }

    private static void punchIsUndoable() {
        Due.recorded("punch()", Papers::full, x -> x.punch(3, 3, 4), 4);
        Due.recorded("punch() of a hole", () -> Papers.punched(9), x -> x.punch(1, 1, 1), 0);
        Due.recorded("punch() of 64 layers", Papers::smallest, x -> x.punch(0, 0, 64), 64);
    }

    private static void leastAndMostColumnOfPunch() {
        Due.is("punch(0, 3, 1)", new PunchedFolds().punch(0, 3, 1), 1);
        Due.is("punch(7, 3, 1)", new PunchedFolds().punch(7, 3, 1), 1);
        Due.is("punch(8, 3, 1)", new PunchedFolds().punch(8, 3, 1), PunchedFolds.NO_SUCH);
        Due.is("punch(1, 3, 1) at the width 2", Papers.sized(2, 0).punch(1, 3, 1), 1);
        Due.is("punch(2, 3, 1) at the width 2", Papers.sized(2, 0).punch(2, 3, 1), PunchedFolds.NO_SUCH);
    }

    private static void leastAndMostRowOfPunch() {
        Due.is("punch(3, 0, 1)", new PunchedFolds().punch(3, 0, 1), 1);
        Due.is("punch(3, 7, 1)", new PunchedFolds().punch(3, 7, 1), 1);
        Due.is("punch(3, 8, 1)", new PunchedFolds().punch(3, 8, 1), PunchedFolds.NO_SUCH);
        Due.is("punch(3, 1, 1) at the height 2", Papers.sized(0, 2).punch(3, 1, 1), 1);
        Due.is("punch(3, 2, 1) at the height 2", Papers.sized(0, 2).punch(3, 2, 1), PunchedFolds.NO_SUCH);
    }

    private static void leastAndMostDepth() {
        for (int folds = 0; folds <= 6; folds++) {
            int layers = 1 << folds;
            int across = Math.min(3, folds);
            Due.is("punch() of 1 layer of " + layers, Papers.sized(across, folds - across).punch(0, 0, 1), 1);
            Due.is("punch() of " + layers, Papers.sized(across, folds - across).punch(0, 0, layers), layers);
            Due.is("punch() of more than " + layers, Papers.sized(across, folds - across).punch(0, 0, layers + 1),
                    PunchedFolds.BAD_VALUE);
        }
    }

    private static void newHoles() {
        PunchedFolds x = Papers.smallest();
        Due.is("the first layer", x.punch(0, 0, 1), 1);
        Due.is("the first layer again", x.punch(0, 0, 1), 0);
        Due.is("one more layer", x.punch(0, 0, 2), 1);
        Due.is("all layers", x.punch(0, 0, 64), 62);
        Due.is("all layers again", x.punch(0, 0, 64), 0);
        PunchedFolds y = Papers.folded(3);
        y.punch(1, 1, 1);
        y.mend(1, 1);
        Due.is("a layer that was mended", y.punch(1, 1, 1), 1);
    }

    private static void punchOfNoField() {
        for (int far : new int[] {-1, 4, Papers.LEAST, Papers.MOST}) {
            Due.is("punch(" + far + ", 0, 1)", Papers.sized(1, 2).punch(far, 0, 1), PunchedFolds.NO_SUCH);
        }
        for (int far : new int[] {-1, 2, Papers.LEAST, Papers.MOST}) {
            Due.is("punch(0, " + far + ", 1)", Papers.sized(1, 2).punch(0, far, 1), PunchedFolds.NO_SUCH);
        }
        Due.is("punch(3, 1, 1)", Papers.sized(1, 2).punch(3, 1, 1), 1);
    }

    private static void depthOutOfRange() {
        for (int depth : new int[] {0, -1, 2, 64, Papers.LEAST, Papers.MOST}) {
            Due.is("punch(0, 0, " + depth + ") of an open paper", new PunchedFolds().punch(0, 0, depth),
                    PunchedFolds.BAD_VALUE);
        }
        for (int depth : new int[] {0, -1, 65, Papers.LEAST, Papers.MOST}) {
            Due.is("punch(0, 0, " + depth + ") of the smallest paper", Papers.smallest().punch(0, 0, depth),
                    PunchedFolds.BAD_VALUE);
        }
    }

    // ---- ink

    private static void inksOneField() {
        PunchedFolds x = Papers.sized(1, 1);
        x.ink(0, 3, 2);
        for (int field = 0; field < 16; field++) {
            Due.is("what is seen of a colour", x.seen(field % 4, field / 4) % 10, field == 12 ? 2 : 0);
        }
    }

    private static void inkIsUndoable() {
        Due.recorded("ink()", Papers::full, x -> x.ink(3, 3, 4), uppermostOfFull(3, 3));
        Due.recorded("ink() of the colour that is there", HoleEdges::bothSidesInked, x -> x.ink(0, 0, 2), 7);
        Due.recorded("ink() of another colour", HoleEdges::bothSidesInked, x -> x.ink(0, 0, 5), 7);
        Due.recorded("ink() that no cell gets", () -> Papers.punched(9), x -> x.ink(1, 1, 5), PunchedFolds.NONE);
    }

    /** The cell that is uppermost on a field of the full paper. */
    private static int uppermostOfFull(int column, int row) {
        return Papers.full().layer(column, row, 0, 0);
    }

    private static void leastAndMostColumnOfInk() {
        Due.is("ink(0, 3, 1)", new PunchedFolds().ink(0, 3, 1), 24);
        Due.is("ink(7, 3, 1)", new PunchedFolds().ink(7, 3, 1), 31);
        Due.is("ink(8, 3, 1)", new PunchedFolds().ink(8, 3, 1), PunchedFolds.NO_SUCH);
        Due.is("ink(3, 3, 1) at the width 4", Papers.folded(1).ink(3, 3, 1), 28);
        Due.is("ink(4, 3, 1) at the width 4", Papers.folded(1).ink(4, 3, 1), PunchedFolds.NO_SUCH);
    }

    private static void leastAndMostRowOfInk() {
        Due.is("ink(3, 0, 1)", new PunchedFolds().ink(3, 0, 1), 3);
        Due.is("ink(3, 7, 1)", new PunchedFolds().ink(3, 7, 1), 59);
        Due.is("ink(3, 8, 1)", new PunchedFolds().ink(3, 8, 1), PunchedFolds.NO_SUCH);
        Due.is("ink(3, 3, 1) at the height 4", Papers.folded(3).ink(3, 3, 1), 35);
        Due.is("ink(3, 4, 1) at the height 4", Papers.folded(3).ink(3, 4, 1), PunchedFolds.NO_SUCH);
    }

    private static void leastAndMostColour() {
        PunchedFolds x = new PunchedFolds();
        Due.is("ink(1, 1, 1)", x.ink(1, 1, 1), 9);
        Due.is("the least colour", x.colour(9, 0), 1);
        Due.is("ink(1, 1, 5)", x.ink(1, 1, 5), 9);
        Due.is("the most colour", x.colour(9, 0), 5);
    }

    private static void cellThatGetsTheColour() {
        Due.is("the first cell", new PunchedFolds().ink(0, 0, 1), 0);
        Due.is("the last cell", new PunchedFolds().ink(7, 7, 1), 63);
        PunchedFolds x = Papers.folded(3);
        x.punch(7, 0, 1);
        Due.is("the cell below a hole", x.ink(7, 0, 1), 7);
    }

    private static void noneGetsTheColour() {
        PunchedFolds one = Papers.punched(63);
        Due.is("ink on a stack of one hole", one.ink(7, 7, 1), PunchedFolds.NONE);
        Due.is("its colour", one.colour(63, 0), 0);
        PunchedFolds x = Papers.smallest();
        x.punch(0, 0, 63);
        Due.isTrue("ink on a stack with a whole cell", x.ink(0, 0, 1) >= 0);
        x.punch(0, 0, 64);
        Due.is("ink on a stack of 64 holes", x.ink(0, 0, 2), PunchedFolds.NONE);
        Due.is("sides with a colour", x.count(3), 1);
    }

    private static void inkOfNoField() {
        for (int far : new int[] {-1, 4, Papers.LEAST, Papers.MOST}) {
            Due.is("ink(" + far + ", 0, 1)", Papers.sized(1, 2).ink(far, 0, 1), PunchedFolds.NO_SUCH);
        }
        for (int far : new int[] {-1, 2, Papers.LEAST, Papers.MOST}) {
            Due.is("ink(0, " + far + ", 1)", Papers.sized(1, 2).ink(0, far, 1), PunchedFolds.NO_SUCH);
        }
        Due.isTrue("ink(3, 1, 1)", Papers.sized(1, 2).ink(3, 1, 1) >= 0);
    }

    private static void colourOutOfRange() {
        for (int colour : new int[] {0, 6, -1, Papers.LEAST, Papers.MOST}) {
            Due.is("ink(0, 0, " + colour + ")", new PunchedFolds().ink(0, 0, colour), PunchedFolds.BAD_VALUE);
        }
    }

    // ---- mend

    private static void mendsOneField() {
        PunchedFolds x = Papers.punched(8, 9, 10);
        x.mend(1, 1);
        Due.is("the other holes stay", x.holes(1), 5);
    }

    private static void mendIsUndoable() {
        Due.recorded("mend()", Papers::full, x -> x.mend(0, 0), uppermostOfFull(0, 0));
        Due.recorded("mend() of a cell without colours", () -> Papers.punched(9), x -> x.mend(1, 1), 9);
    }

    private static void leastAndMostColumnOfMend() {
        Due.is("mend(0, 3)", Papers.withoutWholeCell().mend(0, 3), 24);
        Due.is("mend(7, 3)", Papers.withoutWholeCell().mend(7, 3), 31);
        Due.is("mend(8, 3)", Papers.withoutWholeCell().mend(8, 3), PunchedFolds.NO_SUCH);
    }

    private static void leastAndMostRowOfMend() {
        Due.is("mend(3, 0)", Papers.withoutWholeCell().mend(3, 0), 3);
        Due.is("mend(3, 7)", Papers.withoutWholeCell().mend(3, 7), 59);
        Due.is("mend(3, 8)", Papers.withoutWholeCell().mend(3, 8), PunchedFolds.NO_SUCH);
    }

    private static void cellThatIsMended() {
        Due.is("the first cell", Papers.punched(0).mend(0, 0), 0);
        Due.is("the last cell", Papers.punched(63).mend(7, 7), 63);
        PunchedFolds x = Papers.smallest();
        x.punch(0, 0, 64);
        Due.is("the uppermost cell of 64", x.mend(0, 0), x.layer(0, 0, 0, 0));
    }

    private static PunchedFolds foldedHoles() {
        PunchedFolds x = Papers.withoutWholeCell();
        x.fold(0);
        x.fold(3);
        x.fold(2);
        return x;
    }

    private static void mendOfNoField() {
        for (int far : new int[] {-1, 4, Papers.LEAST, Papers.MOST}) {
            Due.is("mend(" + far + ", 0)", foldedHoles().mend(far, 0), PunchedFolds.NO_SUCH);
        }
        for (int far : new int[] {-1, 2, Papers.LEAST, Papers.MOST}) {
            Due.is("mend(0, " + far + ")", foldedHoles().mend(0, far), PunchedFolds.NO_SUCH);
        }
        Due.isTrue("mend(3, 1)", foldedHoles().mend(3, 1) >= 0);
    }

    private static void mendOfAWholeCell() {
        Due.is("mend() without a hole", new PunchedFolds().mend(0, 0), PunchedFolds.NOT_POSSIBLE);
        PunchedFolds x = Papers.punched(9);
        x.mend(1, 1);
        Due.is("mend() for a second time", x.mend(1, 1), PunchedFolds.NOT_POSSIBLE);
        PunchedFolds y = bothSidesInked();
        Due.is("mend() of a cell with colours", y.mend(0, 0), PunchedFolds.NOT_POSSIBLE);
        Due.is("it keeps its colour", y.colour(7, 1), 2);
    }

    private static void mendOfAWholeCellAboveHoles() {
        PunchedFolds x = Papers.smallest();
        x.punch(0, 0, 64);
        x.mend(0, 0);
        Due.is("mend() above 63 holes", x.mend(0, 0), PunchedFolds.NOT_POSSIBLE);
        Due.is("holes", x.count(0), 63);
    }
}
