/** Promises 1 to 6: a new object, fold, unfold, open, size, foldAt. */
public final class FoldsTest {
    private static final int[] NO_FOLDS = {-1, 4, 5, Integer.MAX_VALUE, Integer.MIN_VALUE};

    private FoldsTest() {
    }

    public static void main(String[] args) {
        newObject();
        newObjectsAreApart();
        foldOfEachKind();
        foldTwice();
        foldToTheSmallest();
        foldErrors();
        unfoldEachKind();
        unfoldErrors();
        unfoldKeepsHolesAndInk();
        openTakesAllBack();
        sizeOfEachPart();
        foldAtEachIndex();
        Due.end();
    }

    private static void newObject() {
        PunchedFolds x = new PunchedFolds();
        Due.is("new: width", x.size(0), 8);
        Due.is("new: height", x.size(1), 8);
        Due.is("new: layers", x.size(2), 1);
        Due.is("new: folds", x.size(3), 0);
        Due.is("new: foldAt(0)", x.foldAt(0), PunchedFolds.NO_SUCH);
        for (int row = 0; row < 8; row++) {
            Due.is("new: holes", x.holes(row), 0);
            Due.is("new: target", x.target(row), 0);
        }
        for (int cell = 0; cell < 64; cell++) {
            Due.is("new: column of " + cell, x.where(cell, 0), cell % 8);
            Due.is("new: row of " + cell, x.where(cell, 1), cell / 8);
            Due.is("new: index of " + cell, x.where(cell, 2), 0);
            Due.is("new: side of " + cell, x.where(cell, 3), 0);
            Due.is("new: front of " + cell, x.colour(cell, 0), 0);
            Due.is("new: back of " + cell, x.colour(cell, 1), 0);
        }
        Due.is("new: undo()", x.undo(), PunchedFolds.NOT_POSSIBLE);
        Due.is("new: restore()", x.restore(), PunchedFolds.NOT_POSSIBLE);
        Due.is("new: clearText()", x.clearText(), 0);
    }

    private static void newObjectsAreApart() {
        PunchedFolds x = Due.usedPaper();
        PunchedFolds y = new PunchedFolds();
        Due.is("another object's folds", y.size(3), 0);
        Due.is("another object's holes", y.count(0), 0);
        Due.is("another object's undo()", y.undo(), PunchedFolds.NOT_POSSIBLE);
        Due.is("the first object's folds", x.size(3), 1);
    }

    private static void stack(String what, PunchedFolds x, int column, int row, int... cellsAndSides) {
        for (int i = 0; i < cellsAndSides.length / 2; i++) {
            String call = what + ": layer(" + column + ", " + row + ", " + i + ", ";
            Due.is(call + "0)", x.layer(column, row, i, 0), cellsAndSides[2 * i]);
            Due.is(call + "1)", x.layer(column, row, i, 1), cellsAndSides[2 * i + 1]);
        }
        Due.is(what + ": layers", x.size(2), cellsAndSides.length / 2);
    }

    private static PunchedFolds folded(int... kinds) {
        PunchedFolds x = new PunchedFolds();
        int layers = 1;
        for (int kind : kinds) {
            layers *= 2;
            Due.is("fold(" + kind + ")", x.fold(kind), layers);
        }
        return x;
    }

    private static void foldOfEachKind() {
        PunchedFolds left = folded(0);
        Due.is("fold(0): width", left.size(0), 4);
        Due.is("fold(0): height", left.size(1), 8);
        stack("fold(0)", left, 0, 0, 3, 1, 4, 0);
        stack("fold(0)", left, 3, 7, 56, 1, 63, 0);
        PunchedFolds right = folded(1);
        stack("fold(1)", right, 0, 0, 7, 1, 0, 0);
        stack("fold(1)", right, 3, 2, 20, 1, 19, 0);
        PunchedFolds top = folded(2);
        Due.is("fold(2): width", top.size(0), 8);
        Due.is("fold(2): height", top.size(1), 4);
        stack("fold(2)", top, 0, 0, 24, 1, 32, 0);
        stack("fold(2)", top, 5, 3, 5, 1, 61, 0);
        PunchedFolds bottom = folded(3);
        stack("fold(3)", bottom, 0, 0, 56, 1, 0, 0);
        stack("fold(3)", bottom, 7, 3, 39, 1, 31, 0);
    }

    private static void foldTwice() {
        stack("folds 0 0", folded(0, 0), 1, 0, 4, 1, 3, 0, 0, 1, 7, 0);
        stack("folds 0 0", folded(0, 0), 0, 0, 5, 1, 2, 0, 1, 1, 6, 0);
        stack("folds 1 1", folded(1, 1), 0, 0, 3, 1, 4, 0, 7, 1, 0, 0);
        stack("folds 0 1", folded(0, 1), 0, 0, 7, 1, 0, 0, 3, 1, 4, 0);
        stack("folds 1 0", folded(1, 0), 1, 0, 0, 1, 7, 0, 4, 1, 3, 0);
        stack("folds 2 3", folded(2, 3), 0, 0, 56, 1, 0, 0, 24, 1, 32, 0);
        stack("folds 0 2", folded(0, 2), 3, 3, 7, 1, 0, 0, 56, 1, 63, 0);
        stack("folds 3 1", folded(3, 1), 0, 0, 7, 1, 63, 0, 56, 1, 0, 0);
    }

    private static void foldToTheSmallest() {
        PunchedFolds x = folded(0, 3, 1, 2, 0, 3);
        Due.is("width of the smallest", x.size(0), 1);
        Due.is("height of the smallest", x.size(1), 1);
        boolean[] there = new boolean[64];
        for (int i = 0; i < 64; i++) {
            int cell = x.layer(0, 0, i, 0);
            Due.isTrue("a cell is in one layer", cell >= 0 && cell < 64 && !there[cell]);
            there[Math.floorMod(cell, 64)] = true;
            Due.is("where(" + cell + ", 2)", x.where(cell, 2), i);
        }
    }

    private static void foldErrors() {
        for (int kind : NO_FOLDS) {
            Due.is("fold(" + kind + ")", new PunchedFolds().fold(kind), PunchedFolds.BAD_VALUE);
        }
        for (int way = 0; way < 2; way++) {
            PunchedFolds x = folded(2 * way, 2 * way + 1, 2 * way);
            String before = Due.told(x);
            Due.is("a fold too many", x.fold(2 * way), PunchedFolds.NOT_POSSIBLE);
            Due.is("a fold too many", x.fold(2 * way + 1), PunchedFolds.NOT_POSSIBLE);
            Due.is("BAD_VALUE first", x.fold(4), PunchedFolds.BAD_VALUE);
            Due.isTrue("an error changes nothing", before.equals(Due.told(x)));
            Due.is("a fold of the other way", x.fold(2 - 2 * way), 16);
            Due.is("errors are not recorded", x.undo(), 3);
        }
    }

    private static void unfoldEachKind() {
        for (int kind = 0; kind < 4; kind++) {
            PunchedFolds x = folded(3, 1, kind);
            Due.is("unfold()", x.unfold(), kind);
            Due.is("layers after unfold()", x.size(2), 4);
            stack("unfolded", x, 0, 0, 7, 1, 63, 0, 56, 1, 0, 0);
            Due.is("unfold()", x.unfold(), 1);
            stack("unfolded", x, 7, 3, 39, 1, 31, 0);
            Due.is("unfold()", x.unfold(), 3);
            stack("unfolded", x, 3, 6, 51, 0);
        }
    }

    private static void unfoldErrors() {
        PunchedFolds x = new PunchedFolds();
        Due.is("unfold()", x.unfold(), PunchedFolds.NOT_POSSIBLE);
        Due.is("undo()", x.undo(), PunchedFolds.NOT_POSSIBLE);
        x.fold(2);
        x.unfold();
        String before = Due.told(x);
        Due.is("unfold()", x.unfold(), PunchedFolds.NOT_POSSIBLE);
        Due.isTrue("an error changes nothing", before.equals(Due.told(x)));
        Due.is("undo()", x.undo(), 1);
        Due.is("the fold is there again", x.foldAt(0), 2);
    }

    private static void unfoldKeepsHolesAndInk() {
        PunchedFolds x = folded(1);
        x.punch(2, 3, 1);
        x.ink(1, 1, 5);
        x.unfold();
        Due.is("the hole stays in its cell", x.holes(3), 32);
        Due.is("the colour stays on its side", x.colour(14, 1), 5);
        Due.is("the back is not seen", x.seen(6, 1), 140);
    }

    private static void openTakesAllBack() {
        PunchedFolds x = folded(0, 2, 1, 3);
        Due.is("open()", x.open(), 4);
        Due.is("width", x.size(0), 8);
        Due.is("height", x.size(1), 8);
        Due.is("folds", x.size(3), 0);
        Due.is("foldAt(0)", x.foldAt(0), PunchedFolds.NO_SUCH);
        stack("opened", x, 2, 5, 42, 0);
        Due.is("open() of an open paper", x.open(), 0);
        Due.is("open() is recorded, also without folds", x.undo(), 4);
        Due.is("folds", x.size(3), 0);
        Due.is("undo()", x.undo(), 3);
        Due.is("folds", x.size(3), 4);
        Due.is("foldAt(3)", x.foldAt(3), 3);
    }

    private static void sizeOfEachPart() {
        PunchedFolds x = folded(0, 2, 2);
        Due.is("size(0)", x.size(0), 4);
        Due.is("size(1)", x.size(1), 2);
        Due.is("size(2)", x.size(2), 8);
        Due.is("size(3)", x.size(3), 3);
        for (int part : NO_FOLDS) {
            Due.is("size(" + part + ")", x.size(part), PunchedFolds.BAD_VALUE);
        }
    }

    private static void foldAtEachIndex() {
        PunchedFolds x = folded(3, 1, 2, 0, 2, 1);
        int[] due = {3, 1, 2, 0, 2, 1};
        for (int i = 0; i < due.length; i++) {
            Due.is("foldAt(" + i + ")", x.foldAt(i), due[i]);
        }
        int[] none = {-1, 6, 7, Integer.MAX_VALUE, Integer.MIN_VALUE};
        for (int index : none) {
            Due.is("foldAt(" + index + ")", x.foldAt(index), PunchedFolds.NO_SUCH);
        }
        x.unfold();
        Due.is("foldAt(5) of a fold that is taken back", x.foldAt(5), PunchedFolds.NO_SUCH);
        x.fold(0);
        Due.is("foldAt(5) of another fold", x.foldAt(5), 0);
    }
}
