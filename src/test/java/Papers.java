/** Papers to test with. */
final class Papers {
    static final int LEAST = Integer.MIN_VALUE;
    static final int MOST = Integer.MAX_VALUE;

    private Papers() {
    }

    static PunchedFolds folded(int... kinds) {
        PunchedFolds x = new PunchedFolds();
        for (int kind : kinds) {
            x.fold(kind);
        }
        return x;
    }

    /** A paper that is folded so many times across and down, with folds of all kinds. */
    static PunchedFolds sized(int across, int down) {
        PunchedFolds x = new PunchedFolds();
        for (int i = 0; i < across; i++) {
            x.fold(i % 2);
        }
        for (int i = 0; i < down; i++) {
            x.fold(3 - i % 2);
        }
        return x;
    }

    /** A paper of one field with 64 layers; six states were recorded, so five are kept. */
    static PunchedFolds smallest() {
        return sized(3, 3);
    }

    static void punch(PunchedFolds x, int... cells) {
        for (int cell : cells) {
            x.punch(cell % 8, cell / 8, 1);
        }
    }

    static PunchedFolds punched(int... cells) {
        PunchedFolds x = new PunchedFolds();
        punch(x, cells);
        return x;
    }

    /** An open paper without a whole cell. */
    static PunchedFolds withoutWholeCell() {
        PunchedFolds x = smallest();
        x.punch(0, 0, 64);
        x.open();
        return x;
    }

    /** An open paper of which only these cells are whole. */
    static PunchedFolds punchedAllBut(int... cells) {
        PunchedFolds x = withoutWholeCell();
        for (int cell : cells) {
            x.mend(cell % 8, cell / 8);
        }
        return x;
    }

    static PunchedFolds aimed(int... masks) {
        PunchedFolds x = new PunchedFolds();
        for (int row = 0; row < masks.length; row++) {
            x.aim(row, masks[row]);
        }
        return x;
    }

    static PunchedFolds aimedAtAll() {
        return aimed(255, 255, 255, 255, 255, 255, 255, 255);
    }

    static PunchedFolds written(String text) {
        PunchedFolds x = new PunchedFolds();
        Due.write(x, text);
        return x;
    }

    /** A paper with all that a state has, another saved state, a text in the buffer and five recorded states. */
    static PunchedFolds full() {
        PunchedFolds x = new PunchedFolds();
        x.punch(6, 6, 1);
        x.aim(1, 66);
        x.fold(3);
        x.ink(2, 2, 2);
        x.save();
        x.ink(5, 1, 1);
        x.fold(1);
        x.punch(0, 0, 3);
        x.ink(0, 0, 5);
        x.aim(7, 24);
        Due.write(x, "TP11:5I224");
        return x;
    }
}
