/** Promises 23 to 26: append, clearText, errorPosition, work. */
public final class TextsTest {
    private TextsTest() {
    }

    public static void main(String[] args) {
        appendCharacters();
        appendErrors();
        clearTexts();
        bufferIsNotInTheState();
        textsAreRight();
        errorsInTexts();
        unfinishedTexts();
        textsOfSixtyCharacters();
        worksAreDone();
        worksStopAtAnError();
        depthsOfWorks();
        worksAreOneRecord();
        workErrors();
        Due.end();
    }

    private static void appendCharacters() {
        PunchedFolds x = new PunchedFolds();
        Due.is("append(33)", x.append(33), 1);
        Due.is("append(126)", x.append(126), 2);
        for (int i = 3; i <= 60; i++) {
            Due.is("append(76)", x.append(76), i);
        }
        Due.is("the 61st character", x.append(76), PunchedFolds.LIMIT);
        Due.is("the 61st character again", x.append(76), PunchedFolds.LIMIT);
        Due.is("BAD_VALUE first", x.append(32), PunchedFolds.BAD_VALUE);
        Due.is("clearText()", x.clearText(), 60);
        Due.is("append() after it", x.append(76), 1);
    }

    private static void appendErrors() {
        PunchedFolds x = Papers.written("LR");
        int[] codes = {32, 127, 0, -1, 255, 256 + 76, Integer.MAX_VALUE, Integer.MIN_VALUE};
        for (int code : codes) {
            Due.is("append(" + code + ")", x.append(code), PunchedFolds.BAD_VALUE);
        }
        Due.is("the buffer stays", x.errorPosition(), PunchedFolds.NONE);
        Due.is("its length", x.clearText(), 2);
    }

    private static void clearTexts() {
        PunchedFolds x = Papers.written("LRx");
        Due.is("clearText()", x.clearText(), 3);
        Due.is("clearText()", x.clearText(), 0);
        Due.is("the buffer is empty", x.errorPosition(), 0);
        Due.write(x, "U");
        Due.is("what was cleared is gone", x.errorPosition(), PunchedFolds.NONE);
    }

    private static void bufferIsNotInTheState() {
        PunchedFolds x = Papers.written("LR");
        Due.is("append() is not recorded", x.undo(), PunchedFolds.NOT_POSSIBLE);
        x.save();
        x.fold(0);
        Due.write(x, "T");
        x.undo();
        Due.is("undo() leaves the buffer", x.append('B'), 4);
        x.restore();
        Due.is("restore() leaves the buffer", x.clearText(), 4);
        Due.is("clearText() is not recorded", x.undo(), 0);
    }

    private static void textsAreRight() {
        String[] texts = {"L", "R", "T", "B", "U", "P00", "P77", "P00:1", "P00:9", "P00:10", "P00:59", "P00:60",
            "P00:64", "P00:7L", "P00:64U", "P00P00", "P00:5I001", "I001", "I775", "LRTBU", "I123P45:6U", "UUUU"};
        for (String text : texts) {
            Due.is("errorPosition() of " + text, Papers.written(text).errorPosition(), PunchedFolds.NONE);
        }
    }

    private static void error(String text, int due) {
        PunchedFolds x = Papers.written(text);
        Due.is("errorPosition() of " + text, x.errorPosition(), due);
        Due.is("work() of " + text, x.work(), PunchedFolds.BAD_TEXT);
        Due.is("the buffer stays with " + text, x.clearText(), text.length());
    }

    private static void errorsInTexts() {
        String[] first = {"l", "0", ":", "X", "!", "~", "1L"};
        for (String text : first) {
            error(text, 0);
        }
        error("Lu", 1);
        error("LRTBUp", 5);
        error("P8", 1);
        error("P9", 1);
        error("PL", 1);
        error("P:", 1);
        error("P08", 2);
        error("P0P", 2);
        error("P000", 3);
        error("P00:0", 4);
        error("P00:L", 4);
        error("P00::", 4);
        error("P00:65", 5);
        error("P00:69", 5);
        error("P00:70", 5);
        error("P00:99", 5);
        error("P00:100", 6);
        error("P00:640", 6);
        error("P00:1:", 5);
        error("P00:12:", 6);
        error("I8", 1);
        error("I/", 1);
        error("I08", 2);
        error("I000", 3);
        error("I006", 3);
        error("I00L", 3);
        error("I001:", 4);
        error("I0011", 4);
        error("L:", 1);
        error("L1", 1);
        error("LxPx", 1);
    }

    private static void unfinishedTexts() {
        String[] texts = {"", "P", "P0", "P00:", "I", "I0", "I00", "LP", "P00:64I", "LLI77", "UP12:"};
        for (String text : texts) {
            error(text, text.length());
        }
    }

    private static void textsOfSixtyCharacters() {
        String folds = "LULULULULULULULULULULULULULULULULULULULULULULULULULULULULU";
        Due.is("60 folds and unfolds", Papers.written(folds + "LU").errorPosition(), PunchedFolds.NONE);
        Due.is("60 works", Papers.written(folds + "LU").work(), 60);
        Due.is("an error at the last place", Papers.written(folds + "Lx").errorPosition(), 59);
        Due.is("a work that is cut off", Papers.written(folds + "P0").errorPosition(), 60);
        Due.is("a work at the end", Papers.written(folds.substring(1) + "P00").errorPosition(), PunchedFolds.NONE);
        Due.is("a number at the end", Papers.written(folds.substring(4) + "P00:64").errorPosition(), PunchedFolds.NONE);
    }

    private static void worksAreDone() {
        PunchedFolds x = Papers.written("LRTB");
        Due.is("work()", x.work(), 4);
        for (int i = 0; i < 4; i++) {
            Due.is("foldAt(" + i + ")", x.foldAt(i), i);
        }
        Due.is("the buffer is empty", x.clearText(), 0);
        Due.write(x, "UI115P10:9I114");
        Due.is("a depth that is too large after an unfold", x.work(), 2);
        PunchedFolds y = Papers.written("RP30P01:1I014I301U");
        Due.is("work()", y.work(), 6);
        Due.is("a hole in the upper layer", y.holes(1), 128);
        Due.is("holes in all layers", y.holes(0), 24);
        Due.is("the ink falls through the hole", y.colour(8, 0), 4);
        Due.is("ink that no cell gets is a work done", y.count(3), 1);
        Due.is("the paper is open", y.size(3), 0);
        PunchedFolds z = Papers.written("P12P12U");
        Due.is("a punch that makes no hole is done", z.work(), 2);
        Due.is("the column comes first", z.holes(2), 2);
        PunchedFolds ink = Papers.written("I345");
        ink.work();
        Due.is("the column comes first", ink.colour(35, 0), 5);
    }

    private static void worksStopAtAnError() {
        stops("LLLLT", 3);
        stops("UL", 0);
        stops("LP40R", 1);
        stops("LI401R", 1);
        stops("P00:2L", 0);
        stops("LP00:2LP00:5R", 3);
        stops("BP04T", 1);
        PunchedFolds x = Papers.written("P00P11P77:2P22");
        Due.is("work()", x.work(), 2);
        Due.is("the works ahead of the error are done", x.count(0), 2);
        Due.is("the works after it are not", x.holes(2), 0);
        Due.is("the buffer is empty", x.clearText(), 0);
    }

    private static void stops(String text, int due) {
        PunchedFolds x = Papers.written(text);
        Due.is("work() of " + text, x.work(), due);
        Due.is("the buffer is empty after " + text, x.clearText(), 0);
        Due.is("one state is recorded by " + text, x.undo(), 0);
        Due.is("folds after undo() of " + text, x.size(3), 0);
    }

    private static void depthsOfWorks() {
        PunchedFolds x = Papers.written("LTP00P10:1P20:3P30:4");
        Due.is("work()", x.work(), 6);
        int[] due = {4, 1, 3, 4};
        for (int column = 0; column < 4; column++) {
            int holes = 0;
            for (int i = 0; i < 4; i++) {
                holes += x.layer(column, 0, i, 2);
            }
            Due.is("holes in the column " + column, holes, due[column]);
        }
        PunchedFolds all = Papers.written("LLLTTTP00:63UP01:32");
        Due.is("work()", all.work(), 9);
        Due.is("holes of a depth with two digits", all.count(0), 64);
        PunchedFolds some = Papers.written("RRRBBBP00:64");
        some.work();
        Due.is("holes of the depth 64", some.count(0), 64);
    }

    private static void worksAreOneRecord() {
        PunchedFolds x = new PunchedFolds();
        x.punch(5, 5, 1);
        Due.write(x, "LLTTP00:3I002U");
        Due.is("work()", x.work(), 7);
        Due.is("undo()", x.undo(), 1);
        Due.is("all works are undone", x.size(3), 0);
        Due.is("holes from ahead of them", x.count(0), 1);
        Due.is("no ink", x.count(3), 0);
        Due.write(x, "UL");
        Due.is("no work is done", x.work(), 0);
        Due.is("it is recorded", x.undo(), 1);
        Due.is("undo()", x.undo(), 0);
    }

    private static void workErrors() {
        PunchedFolds x = Due.usedPaper();
        String before = Due.told(x);
        Due.is("an empty buffer", x.work(), PunchedFolds.BAD_TEXT);
        Due.write(x, "LLx");
        Due.is("an error at the end", x.work(), PunchedFolds.BAD_TEXT);
        Due.isTrue("an error changes nothing", before.equals(Due.told(x)));
        Due.is("errors are not recorded", x.undo(), 3);
        Due.is("the buffer stays", x.clearText(), 3);
    }
}
