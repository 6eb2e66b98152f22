/** Promises 7 to 9: punch, ink, mend. */
public final class HolesAndInkTest {
    private static final int[] FAR = {-1, 8, Integer.MAX_VALUE, Integer.MIN_VALUE};

    private HolesAndInkTest() {
    }

    public static void main(String[] args) {
        punchLayers();
        punchErrors();
        punchKeepsColours();
        inkFalls();
        inkErrors();
        mendUppermost();
        mendErrors();
        Due.end();
    }

    private static void punchLayers() {
        // The stack of the field 0, 0 after the folds 1 and 1: the cells 3, 4, 7, 0.
        PunchedFolds x = Papers.folded(1, 1);
        Due.is("punch to a depth of 2", x.punch(0, 0, 2), 2);
        Due.is("holes", x.holes(0), 8 + 16);
        Due.is("punch to a depth of 1", x.punch(0, 0, 1), 0);
        Due.is("punch through holes", x.punch(0, 0, 3), 1);
        Due.is("holes", x.holes(0), 8 + 16 + 128);
        Due.is("punch through all", x.punch(0, 0, 4), 1);
        Due.is("holes", x.holes(0), 1 + 8 + 16 + 128);
        Due.is("punches without a difference are recorded", x.punch(0, 0, 4), 0);
        Due.is("undo()", x.undo(), 4);
        Due.is("the holes stay", x.count(0), 4);
        PunchedFolds y = Papers.folded(0, 0, 0, 2, 2, 2);
        Due.is("punch of 63 layers", y.punch(0, 0, 63), 63);
        Due.is("punch of 64 layers", y.punch(0, 0, 64), 1);
    }

    private static void punchErrors() {
        PunchedFolds x = Due.usedPaper();
        String before = Due.told(x);
        for (int far : FAR) {
            Due.is("punch(" + far + ", 0, 1)", x.punch(far, 0, 1), PunchedFolds.NO_SUCH);
            Due.is("punch(0, " + far + ", 1)", x.punch(0, far, 1), PunchedFolds.NO_SUCH);
            Due.is("NO_SUCH first", x.punch(far, 0, 0), PunchedFolds.NO_SUCH);
        }
        Due.is("a column that is folded away", x.punch(4, 0, 1), PunchedFolds.NO_SUCH);
        Due.is("the last row", x.punch(3, 8, 1), PunchedFolds.NO_SUCH);
        int[] depths = {0, -1, 3, Integer.MAX_VALUE, Integer.MIN_VALUE};
        for (int depth : depths) {
            Due.is("punch(3, 7, " + depth + ")", x.punch(3, 7, depth), PunchedFolds.BAD_VALUE);
        }
        Due.isTrue("an error changes nothing", before.equals(Due.told(x)));
        Due.is("errors are not recorded", x.undo(), 3);
        x.fold(2);
        Due.is("a row that is folded away", x.punch(0, 4, 1), PunchedFolds.NO_SUCH);
        Due.is("the last field", x.punch(3, 3, 4), 4);
    }

    private static void punchKeepsColours() {
        PunchedFolds x = new PunchedFolds();
        x.ink(2, 1, 3);
        x.punch(2, 1, 1);
        Due.is("the front keeps its colour", x.colour(10, 0), 3);
        Due.is("sides with a colour", x.count(3), 1);
        Due.is("the layer's colour", x.layer(2, 1, 0, 3), 3);
    }

    private static void inkFalls() {
        PunchedFolds x = Papers.folded(1);
        Due.is("ink on the uppermost layer", x.ink(0, 0, 2), 7);
        Due.is("its back is up", x.colour(7, 1), 2);
        Due.is("its front stays", x.colour(7, 0), 0);
        Due.is("ink in place of another", x.ink(0, 0, 5), 7);
        Due.is("the new colour", x.colour(7, 1), 5);
        x.punch(0, 0, 1);
        Due.is("ink falls through a hole", x.ink(0, 0, 1), 0);
        Due.is("the front of the lower one", x.colour(0, 0), 1);
        Due.is("the cell with the hole keeps its colour", x.colour(7, 1), 5);
        x.punch(0, 0, 2);
        Due.is("no cell gets the colour", x.ink(0, 0, 3), PunchedFolds.NONE);
        Due.is("NONE is recorded: undo()", x.undo(), 4);
        Due.is("the holes stay after that undo()", x.count(0), 2);
        Due.is("colours", x.count(3), 2);
    }

    private static void inkErrors() {
        PunchedFolds x = Due.usedPaper();
        String before = Due.told(x);
        for (int far : FAR) {
            Due.is("ink(" + far + ", 0, 1)", x.ink(far, 0, 1), PunchedFolds.NO_SUCH);
            Due.is("ink(0, " + far + ", 1)", x.ink(0, far, 1), PunchedFolds.NO_SUCH);
            Due.is("NO_SUCH first", x.ink(0, far, 0), PunchedFolds.NO_SUCH);
        }
        Due.is("a column that is folded away", x.ink(4, 0, 1), PunchedFolds.NO_SUCH);
        int[] colours = {0, -1, 6, Integer.MAX_VALUE, Integer.MIN_VALUE};
        for (int colour : colours) {
            Due.is("BAD_VALUE before NONE", x.ink(0, 0, colour), PunchedFolds.BAD_VALUE);
            Due.is("ink(1, 1, " + colour + ")", x.ink(1, 1, colour), PunchedFolds.BAD_VALUE);
        }
        Due.isTrue("an error changes nothing", before.equals(Due.told(x)));
        Due.is("errors are not recorded", x.undo(), 3);
        Due.is("colour 1", x.ink(1, 2, 1), 22);
        Due.is("colour 5", x.ink(1, 2, 5), 22);
    }

    private static void mendUppermost() {
        PunchedFolds x = Papers.folded(3);
        // The stack of the field 2, 0: the back of the cell 58, the front of the cell 2.
        x.ink(2, 0, 4);
        x.punch(2, 0, 1);
        x.ink(2, 0, 3);
        x.unfold();
        x.punch(2, 7, 1);
        x.mend(2, 7);
        x.ink(2, 7, 1);
        x.punch(2, 7, 1);
        x.fold(3);
        x.punch(2, 0, 2);
        Due.is("the holes", x.count(0), 2);
        Due.is("mend()", x.mend(2, 0), 58);
        Due.is("the holes", x.count(0), 1);
        Due.is("the lower one keeps its hole", x.layer(2, 0, 1, 2), 1);
        Due.is("the front has no colour", x.colour(58, 0), 0);
        Due.is("the back has no colour", x.colour(58, 1), 0);
        Due.is("the lower one keeps its colour", x.colour(2, 0), 3);
        Due.is("undo()", x.undo(), 4);
        Due.is("the hole is there again", x.holes(7), 4);
        Due.is("the colour is there again", x.colour(58, 0), 1);
        PunchedFolds y = Papers.folded(1);
        y.ink(3, 3, 2);
        y.punch(3, 3, 1);
        Due.is("mend()", y.mend(3, 3), 28);
        Due.is("the back has no colour", y.colour(28, 1), 0);
        Due.is("it is whole", y.seen(3, 3), 280);
    }

    private static void mendErrors() {
        PunchedFolds x = Due.usedPaper();
        x.mend(0, 0);
        String before = Due.told(x);
        for (int far : FAR) {
            Due.is("mend(" + far + ", 0)", x.mend(far, 0), PunchedFolds.NO_SUCH);
            Due.is("mend(0, " + far + ")", x.mend(0, far), PunchedFolds.NO_SUCH);
        }
        Due.is("a column that is folded away", x.mend(4, 0), PunchedFolds.NO_SUCH);
        Due.is("a whole cell above a hole", x.mend(0, 0), PunchedFolds.NOT_POSSIBLE);
        Due.is("a whole cell with a colour", x.mend(1, 1), PunchedFolds.NOT_POSSIBLE);
        Due.isTrue("an error changes nothing", before.equals(Due.told(x)));
        Due.is("errors are not recorded", x.undo(), 4);
    }
}
