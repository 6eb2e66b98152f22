/** Promises 10 to 16: layer, seen, where, colour, holes, count, symmetries. */
public final class LooksTest {
    private static final int[] FAR = {-1, 8, Integer.MAX_VALUE, Integer.MIN_VALUE};
    private static final int[] NO_PARTS = {-1, 4, Integer.MAX_VALUE, Integer.MIN_VALUE};
    private static final int[] NO_CELLS = {-1, 64, Integer.MAX_VALUE, Integer.MIN_VALUE};

    private LooksTest() {
    }

    public static void main(String[] args) {
        layerParts();
        layerErrors();
        seenFromAbove();
        whereParts();
        colourSides();
        holesOfRows();
        countCells();
        countPieces();
        countErrors();
        symmetriesOfPatterns();
        looksAreNotRecorded();
        Due.end();
    }

    private static void layerParts() {
        PunchedFolds x = new PunchedFolds();
        x.ink(6, 2, 3);
        x.ink(1, 2, 4);
        x.fold(1);
        // The stack of the field 1, 2: the back of the cell 22, the front of the cell 17.
        x.ink(1, 2, 2);
        x.punch(1, 2, 1);
        int[][] due = {{22, 1, 1, 2}, {17, 0, 0, 4}};
        for (int i = 0; i < 2; i++) {
            for (int part = 0; part < 4; part++) {
                Due.is("layer(1, 2, " + i + ", " + part + ")", x.layer(1, 2, i, part), due[i][part]);
            }
        }
        x.unfold();
        Due.is("layer(6, 2, 0, 3) shows the front", x.layer(6, 2, 0, 3), 3);
    }

    private static void layerErrors() {
        PunchedFolds x = Due.usedPaper();
        for (int far : FAR) {
            Due.is("layer(" + far + ", 0, 0, 0)", x.layer(far, 0, 0, 0), PunchedFolds.NO_SUCH);
            Due.is("layer(0, " + far + ", 0, 0)", x.layer(0, far, 0, 0), PunchedFolds.NO_SUCH);
            Due.is("layer(0, 0, " + far + ", 0)", x.layer(0, 0, far, 0), PunchedFolds.NO_SUCH);
            Due.is("NO_SUCH first", x.layer(0, 0, far, 4), PunchedFolds.NO_SUCH);
        }
        Due.is("a column that is folded away", x.layer(4, 0, 0, 0), PunchedFolds.NO_SUCH);
        Due.is("a layer too deep", x.layer(0, 0, 2, 0), PunchedFolds.NO_SUCH);
        Due.is("the deepest layer", x.layer(0, 0, 1, 0), 0);
        for (int part : NO_PARTS) {
            Due.is("layer(0, 0, 0, " + part + ")", x.layer(0, 0, 0, part), PunchedFolds.BAD_VALUE);
        }
    }

    private static void seenFromAbove() {
        PunchedFolds x = new PunchedFolds();
        Due.is("seen(0, 0)", x.seen(0, 0), 0);
        Due.is("seen(7, 7)", x.seen(7, 7), 630);
        x.ink(2, 0, 5);
        x.fold(1);
        x.ink(2, 0, 1);
        Due.is("seen on the uppermost layer", x.seen(2, 0), 51);
        x.punch(2, 0, 1);
        Due.is("seen through a hole", x.seen(2, 0), 25);
        x.punch(2, 0, 2);
        Due.is("nothing is seen", x.seen(2, 0), PunchedFolds.NONE);
        for (int far : FAR) {
            Due.is("seen(" + far + ", 0)", x.seen(far, 0), PunchedFolds.NO_SUCH);
            Due.is("seen(0, " + far + ")", x.seen(0, far), PunchedFolds.NO_SUCH);
        }
        Due.is("a column that is folded away", x.seen(4, 0), PunchedFolds.NO_SUCH);
    }

    private static void whereParts() {
        PunchedFolds x = new PunchedFolds();
        x.fold(0);
        x.fold(3);
        // The left half came first on the right one, then the lower rows over the upper ones.
        int[][] due = {{0, 3, 0, 2, 1}, {7, 3, 0, 3, 0}, {63, 3, 0, 0, 1}, {56, 3, 0, 1, 0}, {36, 0, 3, 0, 1}};
        for (int[] row : due) {
            for (int part = 0; part < 4; part++) {
                Due.is("where(" + row[0] + ", " + part + ")", x.where(row[0], part), row[part + 1]);
            }
        }
        for (int cell : NO_CELLS) {
            Due.is("where(" + cell + ", 0)", x.where(cell, 0), PunchedFolds.NO_SUCH);
            Due.is("NO_SUCH first", x.where(cell, 4), PunchedFolds.NO_SUCH);
        }
        for (int part : NO_PARTS) {
            Due.is("where(0, " + part + ")", x.where(0, part), PunchedFolds.BAD_VALUE);
        }
    }

    private static void colourSides() {
        PunchedFolds x = new PunchedFolds();
        x.ink(7, 7, 2);
        x.fold(3);
        x.ink(7, 0, 4);
        Due.is("colour(63, 0)", x.colour(63, 0), 2);
        Due.is("colour(63, 1)", x.colour(63, 1), 4);
        Due.is("colour(7, 0)", x.colour(7, 0), 0);
        for (int cell : NO_CELLS) {
            Due.is("colour(" + cell + ", 0)", x.colour(cell, 0), PunchedFolds.NO_SUCH);
            Due.is("NO_SUCH first", x.colour(cell, 2), PunchedFolds.NO_SUCH);
        }
        int[] noSides = {-1, 2, Integer.MAX_VALUE, Integer.MIN_VALUE};
        for (int side : noSides) {
            Due.is("colour(63, " + side + ")", x.colour(63, side), PunchedFolds.BAD_VALUE);
        }
    }

    private static void holesOfRows() {
        PunchedFolds x = new PunchedFolds();
        Papers.punch(x, 0, 7, 58, 63, 12);
        int[] due = {129, 16, 0, 0, 0, 0, 0, 132};
        for (int row = 0; row < 8; row++) {
            Due.is("holes(" + row + ")", x.holes(row), due[row]);
        }
        x.fold(2);
        Due.is("holes are told of the paper, not of its fields", x.holes(7), 132);
        for (int row : FAR) {
            Due.is("holes(" + row + ")", x.holes(row), PunchedFolds.NO_SUCH);
        }
    }

    private static void countCells() {
        PunchedFolds x = new PunchedFolds();
        int[] due = {0, 1, 64, 0, 0, 0};
        for (int what = 0; what < 6; what++) {
            Due.is("new: count(" + what + ")", x.count(what), due[what]);
        }
        Papers.punch(x, 0, 63, 9);
        x.aim(0, 3);
        x.aim(7, 128);
        x.ink(4, 4, 1);
        x.ink(5, 5, 2);
        x.fold(1);
        x.ink(2, 2, 3);
        Due.is("holes", x.count(0), 3);
        Due.is("sides with a colour", x.count(3), 3);
        Due.is("cells of the target", x.count(4), 3);
        Due.is("cells of just one of both", x.count(5), 2);
        PunchedFolds y = new PunchedFolds();
        y.ink(1, 0, 4);
        y.fold(0);
        y.fold(1);
        y.unfold();
        y.ink(2, 0, 4);
        Due.is("both sides of a cell", y.count(3), 2);
    }

    private static void countPieces() {
        PunchedFolds x = new PunchedFolds();
        // The corners hang together over an edge only: the cell 0 is cut off by the cells 1 and 8.
        Papers.punch(x, 1, 8);
        Due.is("a corner is cut off", x.count(1), 2);
        Due.is("the largest piece", x.count(2), 61);
        Papers.punch(x, 0);
        Due.is("the corner is gone", x.count(1), 1);
        PunchedFolds rows = new PunchedFolds();
        for (int column = 0; column < 8; column++) {
            Papers.punch(rows, 24 + column);
        }
        Due.is("pieces above and below a row", rows.count(1), 2);
        Due.is("the largest of both", rows.count(2), 32);
        rows.fold(3);
        Due.is("folds do not matter", rows.count(1), 2);
        PunchedFolds edges = new PunchedFolds();
        for (int row = 0; row < 8; row++) {
            for (int column = 1; column < 7; column++) {
                if (row != 0) {
                    Papers.punch(edges, 8 * row + column);
                }
            }
        }
        Papers.punch(edges, 3);
        Due.is("the end of a row and the beginning of the next one do not hang together", edges.count(1), 2);
        Due.is("the right one is larger", edges.count(2), 11);
        PunchedFolds way = new PunchedFolds();
        Papers.punch(way, 3, 11, 19, 27, 35, 43, 51);
        Due.is("a way that goes down and up again", way.count(1), 1);
        Due.is("all whole cells are on it", way.count(2), 57);
        PunchedFolds board = new PunchedFolds();
        for (int cell = 0; cell < 64; cell++) {
            if ((cell / 8 + cell) % 2 == 0) {
                Papers.punch(board, cell);
            }
        }
        Due.is("cells that only touch at corners", board.count(1), 32);
        Due.is("the largest piece of them", board.count(2), 1);
        snake();
        PunchedFolds last = new PunchedFolds();
        for (int cell = 0; cell < 64; cell++) {
            Papers.punch(last, cell);
        }
        Due.is("no pieces", last.count(1), 0);
        Due.is("no largest piece", last.count(2), 0);
    }

    /** The longest way through the whole cells: it goes from row to row at one end, then at the other. */
    private static void snake() {
        PunchedFolds x = new PunchedFolds();
        for (int row = 1; row < 8; row += 2) {
            for (int column = 0; column < 8; column++) {
                if (column != (row % 4 == 1 ? 7 : 0)) {
                    Papers.punch(x, 8 * row + column);
                }
            }
        }
        Due.is("pieces of a snake", x.count(1), 1);
        Due.is("cells of a snake", x.count(2), 36);
    }

    private static void countErrors() {
        int[] wrong = {-1, 6, Integer.MAX_VALUE, Integer.MIN_VALUE};
        for (int what : wrong) {
            Due.is("count(" + what + ")", new PunchedFolds().count(what), PunchedFolds.BAD_VALUE);
        }
    }

    private static void symmetriesOfPatterns() {
        symmetries(15);
        symmetries(1, 0, 7);
        symmetries(2, 1, 57);
        symmetries(2, 10, 50);
        symmetries(4, 1, 62);
        symmetries(8, 0);
        symmetries(8, 1, 8);
        symmetries(12, 0, 63);
        symmetries(4, 7, 56, 1, 62);
        symmetries(7, 1, 6, 57, 62);
        symmetries(15, 0, 7, 56, 63);
        symmetries(12, 7, 56);
        symmetries(0, 1);
        symmetries(0, 0, 7, 9);
    }

    private static void symmetries(int due, int... cells) {
        PunchedFolds x = new PunchedFolds();
        Papers.punch(x, cells);
        Due.is("symmetries() of " + java.util.Arrays.toString(cells), x.symmetries(), due);
        x.aim(3, 4);
        x.ink(5, 5, 1);
        x.fold(1);
        Due.is("symmetries() are those of the paper's holes", x.symmetries(), due);
    }

    private static void looksAreNotRecorded() {
        PunchedFolds x = new PunchedFolds();
        x.punch(2, 2, 1);
        String before = Due.told(x);
        x.layer(0, 0, 0, 0);
        x.seen(0, 0);
        x.where(0, 0);
        x.colour(0, 0);
        x.holes(0);
        x.count(1);
        x.count(2);
        x.symmetries();
        x.size(0);
        x.foldAt(0);
        Due.isTrue("they change nothing", before.equals(Due.told(x)));
        Due.is("undo()", x.undo(), 0);
        Due.is("the punch is undone", x.count(0), 0);
    }
}
