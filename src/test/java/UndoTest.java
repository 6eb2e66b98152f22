/** Promises 27 to 29: undo, save, restore, and which calls record states. */
public final class UndoTest {
    private UndoTest() {
    }

    public static void main(String[] args) {
        undoableCalls();
        otherCalls();
        fiveStatesAreKept();
        errorsKeepTheOldestState();
        undoBringsAllBack();
        undoGoesOneWay();
        saveAndRestore();
        saveOverwrites();
        savedStateIsNotInTheState();
        restoreIsUndoable();
        Due.end();
    }

    private static int recorded(PunchedFolds x) {
        int number = 0;
        while (x.undo() >= 0) {
            number++;
        }
        return number;
    }

    /** A paper without recorded states, with a fold, a hole in the uppermost layer and a saved state. */
    private static PunchedFolds prepared() {
        PunchedFolds x = new PunchedFolds();
        x.fold(1);
        x.punch(0, 0, 1);
        x.save();
        recorded(x);
        x.restore();
        return x;
    }

    private static void undoableCalls() {
        for (int call = 0; call < 10; call++) {
            PunchedFolds x = prepared();
            String before = Due.told(x);
            int answer = switch (call) {
                case 0 -> x.fold(2);
                case 1 -> x.unfold();
                case 2 -> x.open();
                case 3 -> x.punch(1, 1, 2);
                case 4 -> x.ink(1, 1, 3);
                case 5 -> x.mend(0, 0);
                case 6 -> x.aim(2, 17);
                case 7 -> x.aimHere();
                case 8 -> {
                    Due.write(x, "TP00");
                    yield x.work();
                }
                default -> x.restore();
            };
            Due.isTrue("call " + call + " answers no error", answer >= 0);
            Due.isTrue("call " + call + " makes a difference", call == 9 || !before.equals(Due.told(x)));
            Due.is("undo() of the call " + call, x.undo(), 1);
            Due.isTrue("call " + call + " is undone", before.equals(Due.told(x)));
        }
    }

    private static void otherCalls() {
        PunchedFolds x = prepared();
        x.save();
        x.append('L');
        x.errorPosition();
        x.clearText();
        x.punches();
        x.fold(7);
        x.fold(1);
        x.undo();
        Due.is("recorded states", recorded(x), 1);
    }

    private static void fiveStatesAreKept() {
        PunchedFolds x = new PunchedFolds();
        for (int column = 0; column < 8; column++) {
            x.punch(column, 0, 1);
        }
        int due = 255;
        for (int remaining = 4; remaining >= 0; remaining--) {
            due /= 2;
            Due.is("undo()", x.undo(), remaining);
            Due.is("holes(0)", x.holes(0), due);
        }
        Due.is("undo()", x.undo(), PunchedFolds.NOT_POSSIBLE);
        Due.is("an error changes nothing", x.holes(0), 7);
        x.punch(0, 1, 1);
        Due.is("undo()", x.undo(), 0);
        Due.is("holes(0)", x.holes(0), 7);
        Due.is("holes(1)", x.holes(1), 0);
    }

    private static void errorsKeepTheOldestState() {
        PunchedFolds x = new PunchedFolds();
        for (int mask = 1; mask <= 8; mask++) {
            x.aim(0, mask);
        }
        for (int i = 0; i < 7; i++) {
            x.unfold();
            x.punch(0, 0, 2);
            x.mend(0, 0);
            x.work();
            x.restore();
        }
        for (int remaining = 4; remaining >= 0; remaining--) {
            Due.is("undo()", x.undo(), remaining);
            Due.is("target(0)", x.target(0), 3 + remaining);
        }
    }

    private static void undoBringsAllBack() {
        PunchedFolds x = new PunchedFolds();
        x.fold(0);
        x.fold(2);
        x.fold(1);
        x.ink(0, 0, 3);
        x.punch(1, 1, 5);
        x.aim(3, 200);
        String before = Due.told(x);
        x.open();
        Due.write(x, "P77P66I112TTB");
        x.work();
        x.aimHere();
        Due.is("undo()", x.undo(), 4);
        Due.is("undo()", x.undo(), 3);
        Due.is("undo()", x.undo(), 2);
        Due.isTrue("all is as before", before.equals(Due.told(x)));
        Due.is("foldAt(1)", x.foldAt(1), 2);
    }

    private static void undoGoesOneWay() {
        PunchedFolds x = new PunchedFolds();
        x.fold(0);
        x.fold(2);
        x.undo();
        x.fold(3);
        Due.is("undo() of the later fold", x.undo(), 1);
        Due.is("the first fold stays", x.foldAt(0), 0);
        Due.is("undo()", x.undo(), 0);
        Due.is("undo() is not recorded", x.undo(), PunchedFolds.NOT_POSSIBLE);
    }

    private static void saveAndRestore() {
        PunchedFolds x = Due.usedPaper();
        Due.is("restore() without a saved state", x.restore(), PunchedFolds.NOT_POSSIBLE);
        String before = Due.told(x);
        Due.is("save()", x.save(), 1);
        Due.isTrue("save() changes nothing else", before.equals(Due.told(x)));
        x.open();
        x.mend(7, 0);
        x.aim(5, 0);
        Due.is("restore()", x.restore(), 1);
        Due.isTrue("all is as it was saved", before.equals(Due.told(x)));
        x.fold(0);
        x.ink(0, 3, 5);
        Due.is("it remains saved", x.restore(), 1);
    }

    private static void saveOverwrites() {
        PunchedFolds x = new PunchedFolds();
        x.fold(0);
        Due.is("save()", x.save(), 1);
        x.fold(2);
        x.fold(2);
        Due.is("save()", x.save(), 3);
        x.open();
        Due.is("save() of an open paper", x.save(), 0);
        x.fold(1);
        Due.is("restore()", x.restore(), 0);
        Due.is("size(3)", x.size(3), 0);
    }

    private static void savedStateIsNotInTheState() {
        PunchedFolds x = new PunchedFolds();
        x.fold(0);
        x.save();
        x.undo();
        Due.is("undo() leaves the saved state", x.restore(), 1);
        PunchedFolds y = new PunchedFolds();
        y.fold(0);
        y.fold(0);
        Due.is("save()", y.save(), 2);
        Due.is("the recorded states stay", y.undo(), 1);
        y.restore();
        Due.is("restore() leaves the recorded states", y.undo(), 1);
        Due.is("undo()", y.undo(), 0);
    }

    private static void restoreIsUndoable() {
        PunchedFolds x = new PunchedFolds();
        x.save();
        x.fold(3);
        x.punch(1, 1, 1);
        x.restore();
        Due.is("no holes", x.count(0), 0);
        Due.is("undo()", x.undo(), 2);
        Due.is("the fold is there again", x.foldAt(0), 3);
        Due.is("the hole is there again", x.count(0), 1);
        Due.is("a restore() is still possible", x.restore(), 0);
        Due.is("restore() without a difference", x.restore(), 0);
        Due.is("it is recorded", x.undo(), 3);
    }
}
