/** Promises 17 to 22: aim, aimHere, target, punches, bestFolds, ifPunched. */
public final class TargetTest {
    private static final int[] FAR = {-1, 8, Integer.MAX_VALUE, Integer.MIN_VALUE};

    private TargetTest() {
    }

    public static void main(String[] args) {
        aimRows();
        aimErrors();
        aimAtThePattern();
        targetErrors();
        punchesForTheTarget();
        bestFoldsOfEachWay();
        bestFoldsOfTargets();
        bestFoldsDoNotAskForThePaper();
        ifAFieldWasPunched();
        predictionsChangeNothing();
        Due.end();
    }

    private static void aimRows() {
        PunchedFolds x = new PunchedFolds();
        for (int row = 0; row < 8; row++) {
            Due.is("aim(" + row + ", ..)", x.aim(row, 255 - row), 0);
        }
        for (int row = 0; row < 8; row++) {
            Due.is("target(" + row + ")", x.target(row), 255 - row);
        }
        Due.is("aim(7, 0)", x.aim(7, 0), 248);
        Due.is("aim(7, 255)", x.aim(7, 255), 0);
        Due.is("aim(7, 170)", x.aim(7, 170), 255);
        Due.is("target(7)", x.target(7), 170);
        Due.is("target(6)", x.target(6), 249);
        Due.is("the pattern stays", x.count(0), 0);
        Due.is("aim() without a difference", x.aim(7, 170), 170);
        Due.is("undo()", x.undo(), 4);
        Due.is("target(7)", x.target(7), 170);
        x.undo();
        Due.is("target(7)", x.target(7), 255);
    }

    private static void aimErrors() {
        PunchedFolds x = Due.usedPaper();
        String before = Due.told(x);
        int[] masks = {-1, 256, Integer.MAX_VALUE, Integer.MIN_VALUE};
        for (int row : FAR) {
            Due.is("aim(" + row + ", 0)", x.aim(row, 0), PunchedFolds.NO_SUCH);
            Due.is("NO_SUCH first", x.aim(row, 256), PunchedFolds.NO_SUCH);
        }
        for (int mask : masks) {
            Due.is("aim(5, " + mask + ")", x.aim(5, mask), PunchedFolds.BAD_VALUE);
        }
        Due.isTrue("an error changes nothing", before.equals(Due.told(x)));
        Due.is("errors are not recorded", x.undo(), 3);
    }

    private static void aimAtThePattern() {
        PunchedFolds x = Papers.folded(0);
        x.aim(4, 255);
        x.punch(0, 0, 2);
        x.punch(3, 7, 1);
        Due.is("aimHere()", x.aimHere(), 3);
        Due.is("target(0)", x.target(0), 24);
        Due.is("target(7)", x.target(7), 1);
        Due.is("target(4)", x.target(4), 0);
        Due.is("both are the same", x.count(5), 0);
        x.punch(1, 1, 2);
        Due.is("the target does not follow the pattern", x.count(4), 3);
        Due.is("undo()", x.undo(), 4);
        Due.is("undo()", x.undo(), 3);
        Due.is("the target from ahead of aimHere()", x.target(4), 255);
        Due.is("aimHere() without holes", new PunchedFolds().aimHere(), 0);
    }

    private static void targetErrors() {
        PunchedFolds x = new PunchedFolds();
        for (int row : FAR) {
            Due.is("target(" + row + ")", x.target(row), PunchedFolds.NO_SUCH);
        }
    }

    private static void punchesForTheTarget() {
        PunchedFolds x = new PunchedFolds();
        Due.is("no target", x.punches(), 0);
        x.aim(0, 129);
        x.aim(7, 129);
        Due.is("without folds", x.punches(), 4);
        x.fold(0);
        Due.is("in halves", x.punches(), 2);
        x.fold(3);
        Due.is("in quarters", x.punches(), 1);
        x.fold(3);
        Due.is("some cells of a field only", x.punches(), PunchedFolds.NONE);
        x.punch(0, 0, 8);
        x.unfold();
        Due.is("holes make no difference", x.punches(), 1);
        for (int row = 0; row < 8; row++) {
            x.aim(row, 255);
        }
        Due.is("all cells in quarters", x.punches(), 16);
        x.aim(7, 127);
        Due.is("but one", x.punches(), PunchedFolds.NONE);
        PunchedFolds y = Papers.folded(1, 1, 1, 2, 2, 2);
        Due.is("no target in the smallest paper", y.punches(), 0);
        for (int row = 0; row < 8; row++) {
            y.aim(row, 255);
        }
        Due.is("all cells in the smallest paper", y.punches(), 1);
    }

    private static void bestFoldsOfEachWay() {
        for (int across = 0; across < 4; across++) {
            for (int down = 0; down < 4; down++) {
                PunchedFolds x = new PunchedFolds();
                for (int i = 0; i < across; i++) {
                    x.fold(i % 2);
                }
                for (int i = 0; i < down; i++) {
                    x.fold(3 - i % 2);
                }
                x.punch(0, 0, x.size(2));
                x.aimHere();
                x.open();
                Due.is("bestFolds() for a field", x.bestFolds(), 10 * across + down);
            }
        }
    }

    private static void bestFoldsOfTargets() {
        Due.is("no target", new PunchedFolds().bestFolds(), 0);
        Due.is("a cell", Papers.aimed(0, 4).bestFolds(), 0);
        Due.is("two cells of a row", Papers.aimed(0, 66).bestFolds(), 10);
        Due.is("two cells of a row that do not lie on each other", Papers.aimed(0, 3).bestFolds(), 0);
        Due.is("a row", Papers.aimed(255).bestFolds(), 30);
        Due.is("a column", Papers.aimed(1, 1, 1, 1, 1, 1, 1, 1).bestFolds(), 3);
        Due.is("the paper", Papers.aimed(255, 255, 255, 255, 255, 255, 255, 255).bestFolds(), 33);
        Due.is("two cells that a fold down joins", Papers.aimed(2, 0, 0, 0, 0, 0, 0, 2).bestFolds(), 1);
        Due.is("four cells that both folds join", Papers.aimed(66, 0, 0, 0, 0, 0, 0, 66).bestFolds(), 11);
        Due.is("a cell that spoils the fold across", Papers.aimed(66, 0, 0, 2).bestFolds(), 0);
        Due.is("a cell that spoils both folds", Papers.aimed(36, 0, 0, 4).bestFolds(), 0);
    }

    private static void bestFoldsDoNotAskForThePaper() {
        PunchedFolds x = Papers.aimed(0, 0, 255);
        x.fold(2);
        x.fold(3);
        x.punch(3, 1, 2);
        Due.is("bestFolds() of a folded paper with holes", x.bestFolds(), 30);
        Due.is("size(3)", x.size(3), 2);
    }

    private static void ifAFieldWasPunched() {
        PunchedFolds x = new PunchedFolds();
        for (int column = 0; column < 7; column++) {
            x.punch(column, 3, 1);
        }
        Due.is("a cell that closes a row of holes", x.ifPunched(7, 3), 2);
        Due.is("another cell", x.ifPunched(7, 5), 1);
        Due.is("a cell with a hole", x.ifPunched(0, 3), 1);
        Due.is("the corner's neighbour", x.ifPunched(7, 2), 2);
        x.fold(2);
        x.fold(2);
        x.fold(2);
        Due.is("a column of eight layers", x.ifPunched(3, 0), 3);
        Due.is("the last column", x.ifPunched(7, 0), 2);
        for (int far : FAR) {
            Due.is("ifPunched(" + far + ", 0)", x.ifPunched(far, 0), PunchedFolds.NO_SUCH);
            Due.is("ifPunched(0, " + far + ")", x.ifPunched(0, far), PunchedFolds.NO_SUCH);
        }
        Due.is("a row that is folded away", x.ifPunched(0, 1), PunchedFolds.NO_SUCH);
        PunchedFolds y = Papers.folded(0, 0, 0, 2, 2, 2);
        Due.is("the whole paper", y.ifPunched(0, 0), 0);
    }

    private static void predictionsChangeNothing() {
        PunchedFolds x = Due.usedPaper();
        String before = Due.told(x);
        x.punches();
        x.bestFolds();
        x.ifPunched(1, 1);
        x.target(0);
        Due.isTrue("they change nothing", before.equals(Due.told(x)));
        Due.is("they are not recorded", x.undo(), 3);
    }
}
