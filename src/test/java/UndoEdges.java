import java.util.function.ToIntFunction;

/** The sentences of the terms about undo, and promises 27 to 29. */
final class UndoEdges {
    private static final int[] OUTERMOST_FOLDS = {3, 1, 0, 2, 1, 3};

    private UndoEdges() {
    }

    static void run() {
        terms();
        undo();
        save();
        restore();
    }

    private static void terms() {
        Sentences.of(Sentences.TERMS);
        Sentences.nameNoBoundary("Undo");
        Sentences.test("The methods that are marked \"Undoable.\" record the state that was current ahead of the "
                + "call, if they return no error code (also if the call makes no difference)",
                UndoEdges::callsWithADifference, UndoEdges::callsWithoutADifference, UndoEdges::errorsAreNotRecorded,
                UndoEdges::otherMethodsDoNotRecord);
        Sentences.test("At most 5 states are kept", UndoEdges::fiveAreKept, UndoEdges::noSixthIsKept);
        Sentences.test("when a sixth one is recorded, the oldest one is discarded", UndoEdges::theOldestIsDiscarded,
                UndoEdges::errorsDiscardNothing, UndoEdges::oldestIsDiscardedManyTimes);
        Sentences.test("The state is everything except the buffer, the saved state of save() and the recorded states",
                UndoEdges::allPartsOfTheState, UndoEdges::firstAndLastPartsOfTheState,
                UndoEdges::eachFoldIsInTheState, UndoEdges::bufferIsNotInTheState,
                UndoEdges::savedStateIsNotInTheState, UndoEdges::recordedStatesAreNotInTheState);
    }

    private static void undo() {
        Sentences.of(27);
        Sentences.test("`int undo()`: Makes the latest recorded state current and discards it from the recorded "
                + "states", UndoEdges::latestFirst, UndoEdges::undoIsNotRecorded);
        Sentences.test("Returns the number of recorded states that remain", UndoEdges::statesThatRemain);
        Sentences.test("NOT_POSSIBLE if there is none", UndoEdges::nothingIsRecorded);
    }

    private static void save() {
        Sentences.of(28);
        Sentences.test("`int save()`: Saves the state and overwrites the state that was saved before",
                UndoEdges::saveOverwrites, UndoEdges::savedStateDoesNotFollow, UndoEdges::saveIsNotRecorded);
        Sentences.test("Returns the number of folds", UndoEdges::foldsOfSave);
    }

    private static void restore() {
        Sentences.of(29);
        Sentences.test("`int restore()`: Makes the saved state current", UndoEdges::restoreBringsAllBack,
                UndoEdges::savedNewPaper);
        Sentences.test("it remains saved", UndoEdges::restoreForASecondTime);
        Sentences.test("Undoable", UndoEdges::restoreIsUndoable);
        Sentences.test("Returns the number of folds then", UndoEdges::foldsOfRestore);
        Sentences.test("NOT_POSSIBLE if no state was saved", UndoEdges::nothingIsSaved);
    }

    // ---- the terms

    private static void recorded(String call, ToIntFunction<PunchedFolds> calls, int due) {
        Due.recorded(call, Papers::full, calls, due);
    }

    private static void callsWithADifference() {
        recorded("fold(2)", x -> x.fold(2), 8);
        recorded("unfold()", PunchedFolds::unfold, 1);
        recorded("open()", PunchedFolds::open, 2);
        recorded("punch(3, 3, 1)", x -> x.punch(3, 3, 1), 1);
        recorded("ink(0, 0, 1)", x -> x.ink(0, 0, 1), 0);
        recorded("mend(0, 0)", x -> x.mend(0, 0), 7);
        recorded("aim(0, 1)", x -> x.aim(0, 1), 0);
        recorded("aimHere()", PunchedFolds::aimHere, 4);
        recorded("work()", PunchedFolds::work, 2);
        recorded("restore()", PunchedFolds::restore, 1);
    }

    private static void callsWithoutADifference() {
        Due.recorded("open() without a fold", PunchedFolds::new, PunchedFolds::open, 0);
        recorded("punch(0, 0, 3) through holes", x -> x.punch(0, 0, 3), 0);
        recorded("ink(0, 0, 5) on the same colour", x -> x.ink(0, 0, 5), 0);
        Due.recorded("ink(0, 0, 1) without a whole cell", Papers::withoutWholeCell, x -> x.ink(0, 0, 1),
                PunchedFolds.NONE);
        recorded("aim(7, 24) with the same mask", x -> x.aim(7, 24), 24);
        Due.recorded("aimHere() without a hole", PunchedFolds::new, PunchedFolds::aimHere, 0);
        Due.recorded("work() of which no work is done", () -> Papers.written("U"), PunchedFolds::work, 0);
        Due.recorded("restore() of the current state", UndoEdges::justSaved, PunchedFolds::restore, 1);
    }

    private static PunchedFolds justSaved() {
        PunchedFolds x = Due.usedPaper();
        x.save();
        return x;
    }

    private static void errorsAreNotRecorded() {
        PunchedFolds x = Papers.folded(1);
        x.fold(4);
        x.punch(4, 0, 1);
        x.punch(0, 0, 3);
        x.ink(0, 8, 1);
        x.ink(0, 0, 6);
        x.mend(0, -1);
        x.mend(0, 0);
        x.aim(8, 0);
        x.aim(0, 256);
        x.work();
        x.restore();
        Due.is("undo() after errors", x.undo(), 0);
        Due.is("folds then", x.size(3), 0);
        x.unfold();
        Due.is("undo() after the error of unfold()", x.undo(), PunchedFolds.NOT_POSSIBLE);
    }

    private static void otherMethodsDoNotRecord() {
        PunchedFolds x = new PunchedFolds();
        x.size(0);
        x.foldAt(0);
        x.layer(0, 0, 0, 0);
        x.seen(0, 0);
        x.where(0, 0);
        x.colour(0, 0);
        x.holes(0);
        x.count(0);
        x.symmetries();
        x.target(0);
        x.punches();
        x.bestFolds();
        x.ifPunched(0, 0);
        x.append('L');
        x.errorPosition();
        x.clearText();
        x.save();
        Due.is("undo() after methods that are not marked", x.undo(), PunchedFolds.NOT_POSSIBLE);
    }

    /** A paper whose target has in its first row the number of times that it was changed. */
    private static PunchedFolds aimedTimes(int times) {
        PunchedFolds x = new PunchedFolds();
        for (int mask = 1; mask <= times; mask++) {
            x.aim(0, mask);
        }
        return x;
    }

    private static void fiveAreKept() {
        PunchedFolds x = aimedTimes(5);
        for (int states = 4; states >= 0; states--) {
            Due.is("undo()", x.undo(), states);
            Due.is("target(0)", x.target(0), states);
        }
        Due.is("undo() after five", x.undo(), PunchedFolds.NOT_POSSIBLE);
    }

    private static void noSixthIsKept() {
        Due.is("states after five calls", Due.statesOf(aimedTimes(5)), 5);
        Due.is("states after six calls", Due.statesOf(aimedTimes(6)), 5);
        Due.is("states after a hundred calls", Due.statesOf(aimedTimes(100)), 5);
    }

    private static void theOldestIsDiscarded() {
        PunchedFolds x = aimedTimes(6);
        for (int states = 4; states >= 0; states--) {
            Due.is("undo()", x.undo(), states);
            Due.is("target(0)", x.target(0), states + 1);
        }
        Due.is("undo() of the state that was discarded", x.undo(), PunchedFolds.NOT_POSSIBLE);
        Due.is("target(0)", x.target(0), 1);
    }

    private static void errorsDiscardNothing() {
        PunchedFolds x = aimedTimes(5);
        x.aim(0, 256);
        x.fold(-1);
        x.unfold();
        x.work();
        Due.is("states after errors", Due.statesOf(x), 5);
        Due.is("the oldest one", x.target(0), 0);
    }

    private static void oldestIsDiscardedManyTimes() {
        for (int times = 6; times <= 20; times++) {
            PunchedFolds x = aimedTimes(times);
            for (int due = times - 1; due >= times - 5; due--) {
                x.undo();
                Due.is("target(0) after " + times + " changes", x.target(0), due);
            }
            Due.is("undo()", x.undo(), PunchedFolds.NOT_POSSIBLE);
            x.aim(1, 1);
            Due.is("undo() of a later call", x.undo(), 0);
            Due.is("target(1)", x.target(1), 0);
        }
    }

    private static void allPartsOfTheState() {
        PunchedFolds x = Papers.full();
        String before = Due.told(x);
        int[] colours = colours(x);
        x.clearText();
        Due.write(x, "UUP11I772");
        x.work();
        x.aimHere();
        x.mend(1, 1);
        x.undo();
        x.undo();
        x.undo();
        Due.isTrue("folds, holes, colours and target are as before", before.equals(Due.told(x)));
        Due.isTrue("all colours are as before", java.util.Arrays.equals(colours, colours(x)));
    }

    private static void firstAndLastPartsOfTheState() {
        PunchedFolds x = new PunchedFolds();
        x.save();
        makeOutermost(x);
        x.restore();
        Due.is("sides with a colour of a new paper", x.count(3), 0);
        x.undo();
        isOutermost("after undo()", x);
        x.save();
        x.open();
        x.mend(0, 0);
        x.mend(7, 7);
        x.aim(0, 0);
        x.aim(7, 0);
        x.restore();
        isOutermost("after restore()", x);
    }

    /** Both sides of the first and of the last cell are inked; both have holes and belong to the target. */
    private static void makeOutermost(PunchedFolds x) {
        x.ink(0, 0, 1);
        x.ink(7, 7, 2);
        x.fold(0);
        x.ink(3, 0, 3);
        x.unfold();
        x.fold(1);
        x.ink(0, 7, 4);
        x.unfold();
        Papers.punch(x, 0, 63);
        x.aim(0, 1);
        x.aim(7, 128);
        for (int kind : OUTERMOST_FOLDS) {
            x.fold(kind);
        }
    }

    private static void isOutermost(String when, PunchedFolds x) {
        Due.is(when + ": the front of the first cell", x.colour(0, 0), 1);
        Due.is(when + ": its back", x.colour(0, 1), 3);
        Due.is(when + ": the front of the last cell", x.colour(63, 0), 2);
        Due.is(when + ": its back", x.colour(63, 1), 4);
        Due.is(when + ": the hole of the first cell", x.holes(0), 1);
        Due.is(when + ": the hole of the last cell", x.holes(7), 128);
        Due.is(when + ": the first row of the target", x.target(0), 1);
        Due.is(when + ": the last row of the target", x.target(7), 128);
        Due.is(when + ": folds", x.size(3), 6);
        for (int i = 0; i < 6; i++) {
            Due.is(when + ": foldAt(" + i + ")", x.foldAt(i), OUTERMOST_FOLDS[i]);
        }
    }

    private static void eachFoldIsInTheState() {
        for (int kind = 0; kind < 4; kind++) {
            for (int ahead = 0; ahead < 6; ahead++) {
                PunchedFolds x = kind < 2 ? Papers.sized(ahead / 2, ahead - ahead / 2)
                        : Papers.sized(ahead - ahead / 2, ahead / 2);
                x.fold(kind);
                x.save();
                x.unfold();
                x.fold(kind ^ 1);
                x.undo();
                x.undo();
                Due.is("foldAt(" + ahead + ") after undo()", x.foldAt(ahead), kind);
                x.unfold();
                x.fold(kind ^ 1);
                x.restore();
                Due.is("foldAt(" + ahead + ") after restore()", x.foldAt(ahead), kind);
            }
        }
    }

    private static int[] colours(PunchedFolds x) {
        int[] colours = new int[128];
        for (int side = 0; side < 128; side++) {
            colours[side] = x.colour(side / 2, side % 2);
        }
        return colours;
    }

    private static void bufferIsNotInTheState() {
        PunchedFolds x = Papers.written("LR");
        x.save();
        x.fold(0);
        Due.write(x, "TP");
        x.undo();
        Due.is("the buffer after undo()", x.errorPosition(), 4);
        x.restore();
        Due.is("the buffer after restore()", x.clearText(), 4);
        Due.write(x, "L");
        x.work();
        x.undo();
        Due.is("the buffer after the undo() of work()", x.clearText(), 0);
    }

    private static void savedStateIsNotInTheState() {
        PunchedFolds x = Papers.folded(0);
        x.save();
        x.undo();
        Due.is("undo() leaves what is saved", x.restore(), 1);
        PunchedFolds y = Papers.folded(0);
        y.save();
        y.fold(2);
        y.save();
        y.undo();
        Due.is("undo() does not bring the earlier saved state back", y.restore(), 2);
    }

    private static void recordedStatesAreNotInTheState() {
        PunchedFolds x = Papers.folded(0, 1);
        x.save();
        x.undo();
        x.undo();
        x.restore();
        Due.is("restore() brings no recorded states back", x.undo(), 0);
        Due.is("undo() neither", x.undo(), PunchedFolds.NOT_POSSIBLE);
    }

    // ---- undo

    private static void latestFirst() {
        PunchedFolds x = Papers.folded(0, 1, 2);
        x.undo();
        Due.is("the latest state", x.size(3), 2);
        x.undo();
        Due.is("the one ahead of it", x.size(3), 1);
        x.fold(3);
        x.undo();
        Due.is("the state ahead of another call", x.size(3), 1);
        x.undo();
        Due.is("the first state", x.size(3), 0);
    }

    private static void undoIsNotRecorded() {
        PunchedFolds x = Papers.folded(0);
        x.undo();
        Due.is("undo() of undo()", x.undo(), PunchedFolds.NOT_POSSIBLE);
        Due.is("folds", x.size(3), 0);
    }

    private static void statesThatRemain() {
        for (int times = 1; times <= 8; times++) {
            Due.is("undo() after " + times + " calls", aimedTimes(times).undo(), Math.min(4, times - 1));
        }
    }

    private static void nothingIsRecorded() {
        Due.is("undo() of a new paper", new PunchedFolds().undo(), PunchedFolds.NOT_POSSIBLE);
        PunchedFolds x = aimedTimes(1);
        x.undo();
        Due.is("undo() after the only one", x.undo(), PunchedFolds.NOT_POSSIBLE);
        PunchedFolds y = aimedTimes(7);
        Due.statesOf(y);
        Due.is("undo() after five", y.undo(), PunchedFolds.NOT_POSSIBLE);
        Due.is("the state stays", y.target(0), 2);
    }

    // ---- save

    private static void saveOverwrites() {
        PunchedFolds x = Papers.folded(0, 2);
        x.save();
        x.open();
        x.punch(1, 0, 1);
        x.save();
        x.fold(1);
        x.mend(1, 0);
        Due.is("restore()", x.restore(), 0);
        Due.is("the holes that were saved last", x.holes(0), 2);
    }

    private static void savedStateDoesNotFollow() {
        PunchedFolds x = Papers.full();
        String before = Due.told(x);
        x.save();
        x.punch(0, 0, 4);
        x.ink(1, 1, 3);
        x.aim(0, 255);
        x.open();
        x.restore();
        Due.isTrue("the saved state stays as it was", before.equals(Due.told(x)));
    }

    private static void saveIsNotRecorded() {
        PunchedFolds x = new PunchedFolds();
        x.save();
        Due.is("undo() after save()", x.undo(), PunchedFolds.NOT_POSSIBLE);
        PunchedFolds y = aimedTimes(5);
        y.save();
        Due.is("states after save()", Due.statesOf(y), 5);
    }

    private static void foldsOfSave() {
        for (int folds = 0; folds <= 6; folds++) {
            PunchedFolds x = Papers.sized(folds / 2, folds - folds / 2);
            Due.is("save() with " + folds + " folds", x.save(), folds);
            Due.is("folds then", x.size(3), folds);
        }
    }

    // ---- restore

    private static void restoreBringsAllBack() {
        PunchedFolds x = Papers.full();
        x.save();
        String before = Due.told(x);
        int[] colours = colours(x);
        x.open();
        x.mend(6, 6);
        x.ink(0, 0, 3);
        x.aimHere();
        x.fold(0);
        x.restore();
        Due.isTrue("folds, holes, colours and target are as saved", before.equals(Due.told(x)));
        Due.isTrue("all colours are as saved", java.util.Arrays.equals(colours, colours(x)));
    }

    private static void savedNewPaper() {
        PunchedFolds x = new PunchedFolds();
        Due.is("save() of a new paper", x.save(), 0);
        x.punch(0, 0, 1);
        x.ink(1, 1, 1);
        x.aim(0, 1);
        x.fold(0);
        Due.is("restore() of a new paper", x.restore(), 0);
        for (int what : new int[] {0, 3, 4}) {
            Due.is("count(" + what + ")", x.count(what), 0);
        }
    }

    private static void restoreForASecondTime() {
        PunchedFolds x = Papers.folded(2, 0);
        x.save();
        for (int i = 0; i < 3; i++) {
            x.open();
            x.punch(7, 7, 1);
            Due.is("restore()", x.restore(), 2);
            Due.is("cells with holes", x.count(0), 0);
            Due.is("foldAt(0)", x.foldAt(0), 2);
        }
    }

    private static void restoreIsUndoable() {
        recorded("restore()", PunchedFolds::restore, 1);
        Due.recorded("restore() without a difference", UndoEdges::justSaved, PunchedFolds::restore, 1);
    }

    private static void foldsOfRestore() {
        for (int folds = 0; folds <= 6; folds++) {
            PunchedFolds x = Papers.sized(folds / 2, folds - folds / 2);
            x.save();
            x.open();
            Due.is("restore() of " + folds + " folds", x.restore(), folds);
            Due.is("folds then", x.size(3), folds);
        }
    }

    private static void nothingIsSaved() {
        Due.is("restore() of a new paper", new PunchedFolds().restore(), PunchedFolds.NOT_POSSIBLE);
        PunchedFolds x = Due.usedPaper();
        Due.is("restore() without save()", x.restore(), PunchedFolds.NOT_POSSIBLE);
        Due.is("folds then", x.size(3), 1);
        x.undo();
        Due.is("restore() after undo()", x.restore(), PunchedFolds.NOT_POSSIBLE);
    }
}
