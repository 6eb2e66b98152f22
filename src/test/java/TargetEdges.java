/** Promises 17 to 22. */
final class TargetEdges {
    private static final int[] NO_ROWS = {-1, 8, Papers.LEAST, Papers.MOST};

    private TargetEdges() {
    }

    static void run() {
        aim();
        aimHere();
        target();
        punches();
        bestFolds();
        ifPunched();
    }

    private static void aim() {
        Sentences.of(17);
        Sentences.test("`int aim(int row, int mask)`: Changes a row of the target", TargetEdges::otherRowsStay);
        Sentences.test("Undoable", TargetEdges::aimIsUndoable);
        Sentences.test("`row`: 0 to 7", TargetEdges::firstAndLastRowOfAim);
        Sentences.test("`mask`: 0 to 255: bit c is 1 if the cell in the column c belongs to the target",
                TargetEdges::leastAndMostMask, TargetEdges::bitsOfAim);
        Sentences.test("Returns the previous mask of this row", TargetEdges::previousMasks);
        Sentences.test("NO_SUCH if there is no such row", TargetEdges::aimOfNoRow);
        Sentences.test("BAD_VALUE if mask is out of range", TargetEdges::maskOutOfRange);
    }

    private static void aimHere() {
        Sentences.of(18);
        Sentences.test("`int aimHere()`: Makes the pattern of the paper the target",
                TargetEdges::aimHereReplacesTheTarget, TargetEdges::targetDoesNotFollowThePattern);
        Sentences.test("Undoable", TargetEdges::aimHereIsUndoable);
        Sentences.test("Returns the number of cells of the target then", TargetEdges::leastAndMostCellsOfAimHere);
    }

    private static void target() {
        Sentences.of(19);
        Sentences.test("`int target(int row)`: Returns a row of the target",
                () -> Due.onlyLooks("target(7)", Papers::full, x -> x.target(7), 24));
        Sentences.test("`row`: 0 to 7", TargetEdges::firstAndLastRowOfTarget);
        Sentences.test("Returns the mask", TargetEdges::leastAndMostMaskOfTarget);
        Sentences.test("NO_SUCH if there is no such row", TargetEdges::targetOfNoRow);
    }

    private static void punches() {
        Sentences.of(20);
        Sentences.test("`int punches()`: Predicts how many punches through all layers would make the target out of a "
                + "paper without holes that is folded as the paper is now", TargetEdges::holesDoNotMatterForPunches,
                TargetEdges::foldsMatterForPunches);
        Sentences.test("Returns the number of fields all of whose cells belong to the target",
                TargetEdges::punchesForNoneAndAll, TargetEdges::punchesForTheFirstOrLastField);
        Sentences.test("NONE if there is a field of which only some cells do", TargetEdges::allButOneCell,
                TargetEdges::oneCellOnly, TargetEdges::onlyOneFieldIsSpoilt);
    }

    private static void bestFolds() {
        Sentences.of(21);
        Sentences.test("`int bestFolds()`: Finds the folds with which a paper without holes would need the fewest "
                + "punches through all layers for the target", TargetEdges::bestFoldsOfAll,
                TargetEdges::holesAndFoldsDoNotMatterForBestFolds);
        Sentences.test("only folds count with which it is possible", TargetEdges::oneCellSpoilsFolds);
        Sentences.test("Returns 10 * the number of folds 0 or 1 + the number of folds 2 or 3 (which of both they are "
                + "makes no difference)", TargetEdges::bestFoldsOfEachSize);
        Sentences.test("of several the fewest folds, then the fewest folds 0 or 1", TargetEdges::bestFoldsOfNone,
                TargetEdges::bestFoldsOfOneCell);
    }

    private static void ifPunched() {
        Sentences.of(22);
        Sentences.test("`int ifPunched(int column, int row)`: Predicts the number of pieces if a field was punched "
                + "through all its layers", TargetEdges::ifAllLayersWerePunched, TargetEdges::ifHolesWerePunched);
        Sentences.test("`column`: column of the field", TargetEdges::firstAndLastColumnOfIfPunched);
        Sentences.test("`row`: row of the field", TargetEdges::firstAndLastRowOfIfPunched);
        Sentences.test("Returns the number", TargetEdges::leastAndMostPieces);
        Sentences.test("NO_SUCH if there is no such field", TargetEdges::ifNoFieldWasPunched);
    }

    // ---- aim

    private static void otherRowsStay() {
        PunchedFolds x = Papers.aimedAtAll();
        x.aim(0, 0);
        x.aim(7, 1);
        int[] due = {0, 255, 255, 255, 255, 255, 255, 1};
        for (int row = 0; row < 8; row++) {
            Due.is("target(" + row + ")", x.target(row), due[row]);
        }
        Due.is("cells with holes", x.count(0), 0);
    }

    private static void aimIsUndoable() {
        Due.recorded("aim()", Papers::full, x -> x.aim(1, 7), 66);
        Due.recorded("aim() with the mask that is there", Papers::full, x -> x.aim(7, 24), 24);
        Due.recorded("aim() with an empty mask of an empty row", PunchedFolds::new, x -> x.aim(0, 0), 0);
    }

    private static void firstAndLastRowOfAim() {
        PunchedFolds x = new PunchedFolds();
        Due.is("aim(0, 1)", x.aim(0, 1), 0);
        Due.is("aim(7, 2)", x.aim(7, 2), 0);
        Due.is("aim(-1, 4)", x.aim(-1, 4), PunchedFolds.NO_SUCH);
        Due.is("aim(8, 4)", x.aim(8, 4), PunchedFolds.NO_SUCH);
        Due.is("target(0)", x.target(0), 1);
        Due.is("target(7)", x.target(7), 2);
        Due.is("aim(7, 3) of a paper of one row", Papers.smallest().aim(7, 3), 0);
    }

    private static void leastAndMostMask() {
        PunchedFolds x = new PunchedFolds();
        Due.is("aim(7, 255)", x.aim(7, 255), 0);
        Due.is("target(7)", x.target(7), 255);
        Due.is("aim(7, 0)", x.aim(7, 0), 255);
        Due.is("target(7)", x.target(7), 0);
        Due.is("aim(7, 256)", x.aim(7, 256), PunchedFolds.BAD_VALUE);
        Due.is("aim(7, -1)", x.aim(7, -1), PunchedFolds.BAD_VALUE);
    }

    private static void bitsOfAim() {
        for (int cell = 0; cell < 64; cell++) {
            PunchedFolds x = Papers.punched(cell);
            x.aim(cell / 8, 1 << cell % 8);
            Due.is("the target is the cell " + cell, x.count(5), 0);
        }
    }

    private static void previousMasks() {
        PunchedFolds x = new PunchedFolds();
        int[] masks = {255, 0, 1, 128, 128, 254};
        int due = 0;
        for (int mask : masks) {
            Due.is("aim(7, " + mask + ")", x.aim(7, mask), due);
            due = mask;
        }
        Due.is("the mask of another row", x.aim(6, 3), 0);
    }

    private static void aimOfNoRow() {
        for (int row : NO_ROWS) {
            Due.is("aim(" + row + ", 0)", new PunchedFolds().aim(row, 0), PunchedFolds.NO_SUCH);
            Due.is("aim(" + row + ", 255)", new PunchedFolds().aim(row, 255), PunchedFolds.NO_SUCH);
        }
    }

    private static void maskOutOfRange() {
        for (int mask : new int[] {-1, 256, 511, Papers.LEAST, Papers.MOST}) {
            Due.is("aim(0, " + mask + ")", new PunchedFolds().aim(0, mask), PunchedFolds.BAD_VALUE);
            Due.is("aim(7, " + mask + ")", new PunchedFolds().aim(7, mask), PunchedFolds.BAD_VALUE);
        }
    }

    // ---- aimHere

    private static void aimHereReplacesTheTarget() {
        PunchedFolds x = Papers.punched(0, 63);
        x.aim(0, 254);
        x.aim(4, 16);
        Due.is("aimHere()", x.aimHere(), 2);
        int[] due = {1, 0, 0, 0, 0, 0, 0, 128};
        for (int row = 0; row < 8; row++) {
            Due.is("target(" + row + ")", x.target(row), due[row]);
        }
        Due.is("the pattern stays", x.count(0), 2);
    }

    private static void targetDoesNotFollowThePattern() {
        PunchedFolds x = Papers.punched(9);
        x.aimHere();
        x.punch(2, 2, 1);
        Due.is("the target after a punch", x.count(4), 1);
        x.mend(1, 1);
        Due.is("the target after a mend", x.target(1), 2);
    }

    private static void aimHereIsUndoable() {
        Due.recorded("aimHere()", Papers::full, PunchedFolds::aimHere, 4);
        Due.recorded("aimHere() without a hole and a target", PunchedFolds::new, PunchedFolds::aimHere, 0);
        Due.recorded("aimHere() of what is the target", TargetEdges::punchedAndAimed, PunchedFolds::aimHere, 1);
    }

    private static PunchedFolds punchedAndAimed() {
        PunchedFolds x = Papers.punched(5);
        x.aimHere();
        return x;
    }

    private static void leastAndMostCellsOfAimHere() {
        Due.is("aimHere() without a hole", new PunchedFolds().aimHere(), 0);
        Due.is("aimHere() without a hole, with a target", Papers.aimedAtAll().aimHere(), 0);
        Due.is("aimHere() without a whole cell", Papers.withoutWholeCell().aimHere(), 64);
    }

    // ---- target

    private static void firstAndLastRowOfTarget() {
        PunchedFolds x = Papers.aimed(1, 2, 4, 8, 16, 32, 64, 128);
        for (int row = 0; row < 8; row++) {
            Due.is("target(" + row + ")", x.target(row), 1 << row);
        }
        Due.is("target(-1)", x.target(-1), PunchedFolds.NO_SUCH);
        Due.is("target(8)", x.target(8), PunchedFolds.NO_SUCH);
    }

    private static void leastAndMostMaskOfTarget() {
        Due.is("an empty row", Papers.aimed(0, 255).target(0), 0);
        Due.is("a full row", Papers.aimed(0, 255).target(1), 255);
        PunchedFolds last = new PunchedFolds();
        last.aim(7, 255);
        Due.is("a full last row", last.target(7), 255);
    }

    private static void targetOfNoRow() {
        for (int row : NO_ROWS) {
            Due.is("target(" + row + ")", Papers.aimedAtAll().target(row), PunchedFolds.NO_SUCH);
        }
    }

    // ---- punches

    private static PunchedFolds foldedAndAimedAtAll(int across, int down) {
        PunchedFolds x = Papers.sized(across, down);
        for (int row = 0; row < 8; row++) {
            x.aim(row, 255);
        }
        return x;
    }

    private static void holesDoNotMatterForPunches() {
        PunchedFolds x = foldedAndAimedAtAll(2, 1);
        x.punch(0, 0, 8);
        x.punch(1, 1, 3);
        Due.is("punches() of a paper with holes", x.punches(), 8);
        PunchedFolds y = Papers.withoutWholeCell();
        Due.is("punches() for no target without a whole cell", y.punches(), 0);
    }

    private static void foldsMatterForPunches() {
        PunchedFolds x = Papers.aimed(129, 0, 0, 0, 0, 0, 0, 129);
        Due.is("punches() of the open paper", x.punches(), 4);
        x.fold(0);
        Due.is("punches() of halves", x.punches(), 2);
        x.fold(3);
        Due.is("punches() of quarters", x.punches(), 1);
        x.fold(1);
        Due.is("punches() of eighths", x.punches(), PunchedFolds.NONE);
        x.unfold();
        Due.is("punches() of quarters again", x.punches(), 1);
    }

    private static void punchesForNoneAndAll() {
        for (int across = 0; across < 4; across++) {
            for (int down = 0; down < 4; down++) {
                Due.is("punches() for no target", Papers.sized(across, down).punches(), 0);
                Due.is("punches() for all cells", foldedAndAimedAtAll(across, down).punches(),
                        (8 >> across) * (8 >> down));
            }
        }
    }

    private static void punchesForTheFirstOrLastField() {
        PunchedFolds x = Papers.folded(0, 2);
        x.aim(3, 24);
        x.aim(4, 24);
        Due.is("punches() for the first field", x.punches(), 1);
        PunchedFolds y = Papers.folded(0, 2);
        y.aim(0, 129);
        y.aim(7, 129);
        Due.is("punches() for the last field", y.punches(), 1);
    }

    private static void allButOneCell() {
        for (int cell : new int[] {0, 7, 27, 56, 63}) {
            PunchedFolds x = foldedAndAimedAtAll(3, 3);
            x.aim(cell / 8, 255 ^ 1 << cell % 8);
            Due.is("punches() for all but " + cell, x.punches(), PunchedFolds.NONE);
            x.open();
            Due.is("punches() of the open paper for all but " + cell, x.punches(), 63);
        }
    }

    private static void oneCellOnly() {
        for (int cell : new int[] {0, 7, 27, 56, 63}) {
            PunchedFolds x = Papers.smallest();
            x.aim(cell / 8, 1 << cell % 8);
            Due.is("punches() for " + cell, x.punches(), PunchedFolds.NONE);
            x.open();
            Due.is("punches() of the open paper for " + cell, x.punches(), 1);
        }
    }

    private static void onlyOneFieldIsSpoilt() {
        PunchedFolds x = foldedAndAimedAtAll(1, 0);
        Due.is("punches() for all cells", x.punches(), 32);
        x.aim(7, 127);
        Due.is("punches() with one cell less in the last field", x.punches(), PunchedFolds.NONE);
        PunchedFolds y = foldedAndAimedAtAll(1, 0);
        y.aim(0, 255 - 8);
        Due.is("punches() with one cell less in the first field", y.punches(), PunchedFolds.NONE);
    }

    // ---- bestFolds

    private static void bestFoldsOfAll() {
        Due.is("bestFolds() for all cells", Papers.aimedAtAll().bestFolds(), 33);
        Due.is("bestFolds() for a row", Papers.aimed(255).bestFolds(), 30);
        Due.is("bestFolds() for the last row", Papers.aimed(0, 0, 0, 0, 0, 0, 0, 255).bestFolds(), 30);
        Due.is("bestFolds() for a column", Papers.aimed(128, 128, 128, 128, 128, 128, 128, 128).bestFolds(), 3);
        Due.is("bestFolds() for the corners", Papers.aimed(129, 0, 0, 0, 0, 0, 0, 129).bestFolds(), 11);
    }

    private static void holesAndFoldsDoNotMatterForBestFolds() {
        PunchedFolds x = Papers.aimed(66);
        x.fold(2);
        x.fold(2);
        x.punch(0, 0, 4);
        Due.is("bestFolds() of a folded paper with holes", x.bestFolds(), 10);
        PunchedFolds y = Papers.smallest();
        y.punch(0, 0, 64);
        y.aim(3, 255);
        Due.is("bestFolds() of the smallest paper without a whole cell", y.bestFolds(), 30);
    }

    private static void oneCellSpoilsFolds() {
        for (int cell : new int[] {0, 7, 27, 56, 63}) {
            PunchedFolds x = Papers.aimedAtAll();
            x.aim(cell / 8, 255 ^ 1 << cell % 8);
            Due.is("bestFolds() for all cells but " + cell, x.bestFolds(), 0);
        }
        Due.is("a cell more than half a row", Papers.aimed(195 | 4).bestFolds(), 0);
        Due.is("two cells that a fold does not lay on each other", Papers.aimed(130).bestFolds(), 0);
        Due.is("a cell that spoils the second fold across", Papers.aimed(60, 60, 126).bestFolds(), 10);
        Due.is("rows of which one spoils the folds down", Papers.aimed(255, 0, 0, 0, 0, 0, 255).bestFolds(), 30);
    }

    private static void bestFoldsOfEachSize() {
        for (int across = 0; across < 4; across++) {
            for (int down = 0; down < 4; down++) {
                PunchedFolds x = Papers.sized(across, down);
                x.punch(0, 0, 1 << across + down);
                x.aimHere();
                Due.is("bestFolds() for a field", x.bestFolds(), 10 * across + down);
            }
        }
    }

    private static void bestFoldsOfNone() {
        Due.is("bestFolds() for no target", new PunchedFolds().bestFolds(), 0);
        Due.is("bestFolds() for no target of the smallest paper", Papers.smallest().bestFolds(), 0);
    }

    private static void bestFoldsOfOneCell() {
        for (int cell : new int[] {0, 7, 27, 56, 63}) {
            PunchedFolds x = new PunchedFolds();
            x.aim(cell / 8, 1 << cell % 8);
            Due.is("bestFolds() for the cell " + cell, x.bestFolds(), 0);
        }
    }

    // ---- ifPunched

    private static void ifAllLayersWerePunched() {
        PunchedFolds x = Papers.folded(2, 2, 2);
        Due.is("a column between", x.ifPunched(3, 0), 2);
        Due.is("the first column", x.ifPunched(0, 0), 1);
        Due.is("pieces stay", x.count(1), 1);
        Due.is("holes stay", x.count(0), 0);
        x.punch(3, 0, 8);
        Due.is("pieces then", x.count(1), 2);
    }

    private static void ifHolesWerePunched() {
        PunchedFolds x = Papers.punched(8, 1);
        Due.is("a cell with a hole", x.ifPunched(1, 0), 2);
        Due.is("the corner that is cut off", x.ifPunched(0, 0), 1);
        Due.is("another corner", x.ifPunched(7, 7), 2);
    }

    private static void firstAndLastColumnOfIfPunched() {
        Due.is("ifPunched(0, 3)", new PunchedFolds().ifPunched(0, 3), 1);
        Due.is("ifPunched(7, 3)", new PunchedFolds().ifPunched(7, 3), 1);
        Due.is("ifPunched(8, 3)", new PunchedFolds().ifPunched(8, 3), PunchedFolds.NO_SUCH);
        // Left over right: the columns 3 and 4 are in the first field, the columns 0 and 7 in the last one.
        PunchedFolds x = Papers.folded(0, 2, 2, 2);
        Due.is("ifPunched(0, 0) at the width 4", x.ifPunched(0, 0), 2);
        Due.is("ifPunched(3, 0) at the width 4", x.ifPunched(3, 0), 1);
        Due.is("ifPunched(4, 0) at the width 4", x.ifPunched(4, 0), PunchedFolds.NO_SUCH);
    }

    private static void firstAndLastRowOfIfPunched() {
        Due.is("ifPunched(3, 0)", new PunchedFolds().ifPunched(3, 0), 1);
        Due.is("ifPunched(3, 7)", new PunchedFolds().ifPunched(3, 7), 1);
        Due.is("ifPunched(3, 8)", new PunchedFolds().ifPunched(3, 8), PunchedFolds.NO_SUCH);
        PunchedFolds x = Papers.folded(0, 0, 0, 3, 3);
        Due.is("ifPunched(0, 1) at the height 2", x.ifPunched(0, 1), 3);
        Due.is("ifPunched(0, 0) at the height 2", x.ifPunched(0, 0), 2);
        Due.is("ifPunched(0, 2) at the height 2", x.ifPunched(0, 2), PunchedFolds.NO_SUCH);
    }

    private static void leastAndMostPieces() {
        Due.is("no piece is left of the smallest paper", Papers.smallest().ifPunched(0, 0), 0);
        Due.is("no piece is left of one cell", Papers.punchedAllBut(63).ifPunched(7, 7), 0);
        PunchedFolds x = new PunchedFolds();
        for (int cell = 0; cell < 63; cell++) {
            if ((cell + cell / 8) % 2 == 0) {
                Papers.punch(x, cell);
            }
        }
        Due.is("all but one of the holes of a board", x.count(0), 31);
        Due.is("the most pieces", x.ifPunched(7, 7), 32);
    }

    private static void ifNoFieldWasPunched() {
        for (int far : new int[] {-1, 4, 8, Papers.LEAST, Papers.MOST}) {
            Due.is("ifPunched(" + far + ", 0)", Papers.sized(1, 1).ifPunched(far, 0), PunchedFolds.NO_SUCH);
            Due.is("ifPunched(0, " + far + ")", Papers.sized(1, 1).ifPunched(0, far), PunchedFolds.NO_SUCH);
        }
        Due.is("ifPunched(3, 3)", Papers.sized(1, 1).ifPunched(3, 3), 1);
        Due.is("ifPunched(1, 0) of the smallest paper", Papers.smallest().ifPunched(1, 0), PunchedFolds.NO_SUCH);
    }
}
