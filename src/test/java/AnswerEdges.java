import java.util.function.Supplier;
import java.util.function.ToIntFunction;

/** The sentences of the terms about return values, and the constants. */
final class AnswerEdges {
    private AnswerEdges() {
    }

    static void run() {
        Sentences.of(Sentences.TERMS);
        Sentences.nameNoBoundary("All numbers are integers", "Return values",
                "Ahead of the calls `fold`, `unfold`, `open`, `size`, `foldAt` the interface says: ---- folds",
                "Ahead of the calls `punch`, `ink`, `mend` the interface says: ---- holes and ink",
                "Ahead of the calls `layer`, `seen`, `where`, `colour`, `holes`, `count`, `symmetries` "
                        + "the interface says: ---- what there is",
                "Ahead of the calls `aim`, `aimHere`, `target` the interface says: ---- the target",
                "Ahead of the calls `punches`, `bestFolds`, `ifPunched` the interface says: ---- predictions",
                "Ahead of the calls `append`, `clearText`, `errorPosition`, `work` the interface says: ---- texts",
                "Ahead of the calls `undo`, `save`, `restore` the interface says: ---- undo, saved state");
        Sentences.test("A method that fails returns one of the error codes NO_SUCH, BAD_VALUE, NOT_POSSIBLE, LIMIT "
                + "and BAD_TEXT", AnswerEdges::eachErrorCode);
        Sentences.test("Each method lists its error codes in the order in which they are checked",
                AnswerEdges::noSuchFieldAheadOfBadValue, AnswerEdges::noSuchCellAheadOfBadValue,
                AnswerEdges::noSuchRowAheadOfBadValue);
        Sentences.test("the first one that applies is returned", AnswerEdges::badFoldAheadOfNotPossible,
                AnswerEdges::noSuchFieldAheadOfNotPossible, AnswerEdges::badCodeAheadOfLimit);
        Sentences.test("A call that returns an error code changes nothing", AnswerEdges::refusedFolds,
                AnswerEdges::refusedHolesAndInk, AnswerEdges::refusedLooks, AnswerEdges::refusedTargets,
                AnswerEdges::refusedTexts, AnswerEdges::refusedUndoAndRestore);
        Sentences.test("NONE is not an error code", AnswerEdges::noneIsRecorded, AnswerEdges::noneIsAWorkDone);
        Sentences.test("a method returns NONE only if no error code applies", AnswerEdges::errorsAheadOfNone);
        Sentences.test("they change nothing", AnswerEdges::predictionsChangeNothing);
        Sentences.test("The constants: `NO_SUCH = -1`: There is no such field, layer, cell or row",
                () -> Due.is("NO_SUCH", PunchedFolds.NO_SUCH, -1), AnswerEdges::noSuch);
        Sentences.test("`BAD_VALUE = -2`: Another argument is out of its range",
                () -> Due.is("BAD_VALUE", PunchedFolds.BAD_VALUE, -2),
                () -> Due.is("size(4)", Papers.full().size(4), -2));
        Sentences.test("`NOT_POSSIBLE = -3`: The call is not possible in the current state",
                () -> Due.is("NOT_POSSIBLE", PunchedFolds.NOT_POSSIBLE, -3),
                () -> Due.is("unfold() without a fold", new PunchedFolds().unfold(), -3));
        Sentences.test("`LIMIT = -4`: There is no room for another character",
                () -> Due.is("LIMIT", PunchedFolds.LIMIT, -4),
                () -> Due.is("append() to a full buffer", fullBuffer().append('L'), -4));
        Sentences.test("`BAD_TEXT = -5`: The buffer does not contain a text",
                () -> Due.is("BAD_TEXT", PunchedFolds.BAD_TEXT, -5),
                () -> Due.is("work() of an empty buffer", new PunchedFolds().work(), -5));
        Sentences.test("`NONE = -6`: There is no such result",
                () -> Due.is("NONE", PunchedFolds.NONE, -6),
                () -> Due.is("seen() without a whole cell", Papers.withoutWholeCell().seen(0, 0), -6));
    }

    private static PunchedFolds fullBuffer() {
        return Papers.written("L".repeat(60));
    }

    private static PunchedFolds smallestWithoutWholeCell() {
        PunchedFolds x = Papers.smallest();
        x.punch(0, 0, 64);
        return x;
    }

    private static void eachErrorCode() {
        Due.is("NO_SUCH", new PunchedFolds().holes(8), PunchedFolds.NO_SUCH);
        Due.is("BAD_VALUE", new PunchedFolds().count(6), PunchedFolds.BAD_VALUE);
        Due.is("NOT_POSSIBLE", new PunchedFolds().undo(), PunchedFolds.NOT_POSSIBLE);
        Due.is("LIMIT", fullBuffer().append('L'), PunchedFolds.LIMIT);
        Due.is("BAD_TEXT", Papers.written("P").work(), PunchedFolds.BAD_TEXT);
    }

    private static void noSuchFieldAheadOfBadValue() {
        int[][] fields = {{-1, 0}, {4, 0}, {0, -1}, {0, 4}, {Papers.LEAST, Papers.MOST}};
        for (int[] field : fields) {
            int c = field[0];
            int r = field[1];
            String at = "(" + c + ", " + r + ", ..)";
            for (int depth : new int[] {0, 5}) {
                Due.is("punch" + at, Papers.full().punch(c, r, depth), PunchedFolds.NO_SUCH);
            }
            for (int colour : new int[] {0, 6}) {
                Due.is("ink" + at, Papers.full().ink(c, r, colour), PunchedFolds.NO_SUCH);
            }
            for (int part : new int[] {-1, 4}) {
                Due.is("layer" + at, Papers.full().layer(c, r, 0, part), PunchedFolds.NO_SUCH);
            }
        }
        for (int index : new int[] {-1, 4}) {
            Due.is("layer(0, 0, " + index + ", -1)", Papers.full().layer(0, 0, index, -1), PunchedFolds.NO_SUCH);
            Due.is("layer(0, 0, " + index + ", 4)", Papers.full().layer(0, 0, index, 4), PunchedFolds.NO_SUCH);
        }
    }

    private static void noSuchCellAheadOfBadValue() {
        for (int cell : new int[] {-1, 64}) {
            Due.is("where(" + cell + ", -1)", new PunchedFolds().where(cell, -1), PunchedFolds.NO_SUCH);
            Due.is("where(" + cell + ", 4)", new PunchedFolds().where(cell, 4), PunchedFolds.NO_SUCH);
            Due.is("colour(" + cell + ", -1)", new PunchedFolds().colour(cell, -1), PunchedFolds.NO_SUCH);
            Due.is("colour(" + cell + ", 2)", new PunchedFolds().colour(cell, 2), PunchedFolds.NO_SUCH);
        }
    }

    private static void noSuchRowAheadOfBadValue() {
        for (int row : new int[] {-1, 8}) {
            Due.is("aim(" + row + ", -1)", new PunchedFolds().aim(row, -1), PunchedFolds.NO_SUCH);
            Due.is("aim(" + row + ", 256)", new PunchedFolds().aim(row, 256), PunchedFolds.NO_SUCH);
        }
    }

    private static void badFoldAheadOfNotPossible() {
        for (int fold : new int[] {-1, 4}) {
            Due.is("fold(" + fold + ") of the smallest paper", Papers.smallest().fold(fold), PunchedFolds.BAD_VALUE);
        }
    }

    private static void noSuchFieldAheadOfNotPossible() {
        int[][] fields = {{-1, 0}, {8, 0}, {0, -1}, {0, 8}};
        for (int[] field : fields) {
            Due.is("mend(" + field[0] + ", " + field[1] + ") of a paper without a hole",
                    new PunchedFolds().mend(field[0], field[1]), PunchedFolds.NO_SUCH);
        }
    }

    private static void badCodeAheadOfLimit() {
        for (int code : new int[] {32, 127}) {
            Due.is("append(" + code + ") to a full buffer", fullBuffer().append(code), PunchedFolds.BAD_VALUE);
        }
    }

    private static void refused(String call, ToIntFunction<PunchedFolds> calls, int code) {
        Due.refused(call, Papers::full, calls, code);
    }

    private static void refusedFolds() {
        refused("fold(-1)", x -> x.fold(-1), PunchedFolds.BAD_VALUE);
        refused("fold(4)", x -> x.fold(4), PunchedFolds.BAD_VALUE);
        Supplier<PunchedFolds> flat = () -> Papers.sized(0, 3);
        Due.refused("fold(2) at the height 1", flat, x -> x.fold(2), PunchedFolds.NOT_POSSIBLE);
        Due.refused("fold(3) at the height 1", flat, x -> x.fold(3), PunchedFolds.NOT_POSSIBLE);
        Supplier<PunchedFolds> narrow = () -> Papers.sized(3, 0);
        Due.refused("fold(0) at the width 1", narrow, x -> x.fold(0), PunchedFolds.NOT_POSSIBLE);
        Due.refused("fold(1) at the width 1", narrow, x -> x.fold(1), PunchedFolds.NOT_POSSIBLE);
        Due.refused("unfold()", AnswerEdges::fullAndOpen, PunchedFolds::unfold, PunchedFolds.NOT_POSSIBLE);
        refused("size(-1)", x -> x.size(-1), PunchedFolds.BAD_VALUE);
        refused("size(4)", x -> x.size(4), PunchedFolds.BAD_VALUE);
        refused("foldAt(-1)", x -> x.foldAt(-1), PunchedFolds.NO_SUCH);
        refused("foldAt(2)", x -> x.foldAt(2), PunchedFolds.NO_SUCH);
    }

    private static PunchedFolds fullAndOpen() {
        PunchedFolds x = Papers.full();
        x.open();
        return x;
    }

    private static void refusedHolesAndInk() {
        refused("punch(-1, 0, 1)", x -> x.punch(-1, 0, 1), PunchedFolds.NO_SUCH);
        refused("punch(0, 4, 1)", x -> x.punch(0, 4, 1), PunchedFolds.NO_SUCH);
        refused("punch(1, 1, 0)", x -> x.punch(1, 1, 0), PunchedFolds.BAD_VALUE);
        refused("punch(1, 1, 5)", x -> x.punch(1, 1, 5), PunchedFolds.BAD_VALUE);
        refused("ink(4, 0, 1)", x -> x.ink(4, 0, 1), PunchedFolds.NO_SUCH);
        refused("ink(0, -1, 1)", x -> x.ink(0, -1, 1), PunchedFolds.NO_SUCH);
        refused("ink(1, 1, 0)", x -> x.ink(1, 1, 0), PunchedFolds.BAD_VALUE);
        refused("ink(1, 1, 6)", x -> x.ink(1, 1, 6), PunchedFolds.BAD_VALUE);
        refused("mend(4, 0)", x -> x.mend(4, 0), PunchedFolds.NO_SUCH);
        refused("mend(0, 4)", x -> x.mend(0, 4), PunchedFolds.NO_SUCH);
        refused("mend(1, 1)", x -> x.mend(1, 1), PunchedFolds.NOT_POSSIBLE);
    }

    private static void refusedLooks() {
        refused("layer(4, 0, 0, 0)", x -> x.layer(4, 0, 0, 0), PunchedFolds.NO_SUCH);
        refused("layer(0, 0, 4, 0)", x -> x.layer(0, 0, 4, 0), PunchedFolds.NO_SUCH);
        refused("layer(0, 0, 0, 4)", x -> x.layer(0, 0, 0, 4), PunchedFolds.BAD_VALUE);
        refused("seen(0, 4)", x -> x.seen(0, 4), PunchedFolds.NO_SUCH);
        refused("where(64, 0)", x -> x.where(64, 0), PunchedFolds.NO_SUCH);
        refused("where(0, 4)", x -> x.where(0, 4), PunchedFolds.BAD_VALUE);
        refused("colour(64, 0)", x -> x.colour(64, 0), PunchedFolds.NO_SUCH);
        refused("colour(0, 2)", x -> x.colour(0, 2), PunchedFolds.BAD_VALUE);
        refused("holes(8)", x -> x.holes(8), PunchedFolds.NO_SUCH);
        refused("count(6)", x -> x.count(6), PunchedFolds.BAD_VALUE);
    }

    private static void refusedTargets() {
        refused("aim(-1, 5)", x -> x.aim(-1, 5), PunchedFolds.NO_SUCH);
        refused("aim(8, 5)", x -> x.aim(8, 5), PunchedFolds.NO_SUCH);
        refused("aim(1, -1)", x -> x.aim(1, -1), PunchedFolds.BAD_VALUE);
        refused("aim(1, 256)", x -> x.aim(1, 256), PunchedFolds.BAD_VALUE);
        refused("target(8)", x -> x.target(8), PunchedFolds.NO_SUCH);
        refused("ifPunched(4, 0)", x -> x.ifPunched(4, 0), PunchedFolds.NO_SUCH);
    }

    private static void refusedTexts() {
        refused("append(32)", x -> x.append(32), PunchedFolds.BAD_VALUE);
        refused("append(127)", x -> x.append(127), PunchedFolds.BAD_VALUE);
        Due.refused("append(76) to a full buffer", AnswerEdges::fullBuffer, x -> x.append(76), PunchedFolds.LIMIT);
        Due.refused("work() of a text that is cut off", AnswerEdges::fullAndCutOff, PunchedFolds::work,
                PunchedFolds.BAD_TEXT);
        Due.refused("work() of a text that goes on wrongly", AnswerEdges::fullAndWrong, PunchedFolds::work,
                PunchedFolds.BAD_TEXT);
        Due.refused("work() of an empty buffer", Due::usedPaper, PunchedFolds::work, PunchedFolds.BAD_TEXT);
    }

    private static PunchedFolds fullAndCutOff() {
        PunchedFolds x = Papers.full();
        Due.write(x, "P0");
        return x;
    }

    private static PunchedFolds fullAndWrong() {
        PunchedFolds x = Papers.full();
        Due.write(x, "P08");
        return x;
    }

    private static void refusedUndoAndRestore() {
        Due.refused("undo() of nothing", AnswerEdges::fullWithoutRecord, PunchedFolds::undo,
                PunchedFolds.NOT_POSSIBLE);
        Due.refused("restore() of nothing", Due::usedPaper, PunchedFolds::restore, PunchedFolds.NOT_POSSIBLE);
    }

    private static PunchedFolds fullWithoutRecord() {
        PunchedFolds x = Papers.full();
        for (int states = 4; states >= 0; states--) {
            Due.is("undo()", x.undo(), states);
        }
        return x;
    }

    private static void noneIsRecorded() {
        Due.recorded("ink() without a whole cell", AnswerEdges::smallestWithoutWholeCell, x -> x.ink(0, 0, 1),
                PunchedFolds.NONE);
    }

    private static void noneIsAWorkDone() {
        PunchedFolds x = Papers.written("P00I001L");
        Due.is("work() with ink that no cell gets", x.work(), 3);
        Due.is("the fold after it", x.size(3), 1);
    }

    private static void errorsAheadOfNone() {
        int[][] fields = {{-1, 0}, {1, 0}, {0, -1}, {0, 1}};
        for (int[] field : fields) {
            PunchedFolds x = smallestWithoutWholeCell();
            String at = "(" + field[0] + ", " + field[1] + ") without a whole cell";
            Due.is("seen" + at, x.seen(field[0], field[1]), PunchedFolds.NO_SUCH);
            Due.is("ink" + at, x.ink(field[0], field[1], 1), PunchedFolds.NO_SUCH);
        }
        Due.is("ink(0, 0, 0)", smallestWithoutWholeCell().ink(0, 0, 0), PunchedFolds.BAD_VALUE);
        Due.is("ink(0, 0, 6)", smallestWithoutWholeCell().ink(0, 0, 6), PunchedFolds.BAD_VALUE);
    }

    private static void predictionsChangeNothing() {
        Due.onlyLooks("punches()", Papers::full, PunchedFolds::punches, PunchedFolds.NONE);
        Due.onlyLooks("bestFolds()", Papers::full, PunchedFolds::bestFolds, 10);
        Due.onlyLooks("ifPunched(0, 0)", Papers::full, x -> x.ifPunched(0, 0), 1);
        Due.onlyLooks("ifPunched(1, 1)", Papers::full, x -> x.ifPunched(1, 1), 1);
    }

    private static void noSuch() {
        Due.is("seen(8, 0)", new PunchedFolds().seen(8, 0), -1);
        Due.is("layer(0, 0, 1, 0)", new PunchedFolds().layer(0, 0, 1, 0), -1);
        Due.is("colour(64, 0)", new PunchedFolds().colour(64, 0), -1);
        Due.is("holes(8)", new PunchedFolds().holes(8), -1);
    }
}
