/** The sentences of the terms about texts, and promises 23 to 26. */
final class TextEdges {
    private static final String FIFTY_NINE = "LU".repeat(29) + "T";

    private TextEdges() {
    }

    static void run() {
        terms();
        append();
        clearText();
        errorPosition();
        work();
    }

    private static void terms() {
        Sentences.of(Sentences.TERMS);
        Sentences.nameNoBoundary("Texts");
        Sentences.test("A buffer of at most 60 characters holds works:", TextEdges::sixtyCharacters);
        Sentences.test("text = work { work }", TextEdges::noWorkIsNoText, TextEdges::oneWorkAndMore,
                TextEdges::workThatGoesOnWrongly);
        Sentences.test("work = \"L\" | \"R\" | \"T\" | \"B\" | \"U\" | \"P\" digit digit [ \":\" number ] | \"I\" "
                + "digit digit colour", TextEdges::eachWork, TextEdges::noOtherLetter, TextEdges::worksThatAreCutOff,
                TextEdges::worksWithWrongCharacters);
        Sentences.test("\"L\", \"R\", \"T\" and \"B\" are the folds 0 to 3, \"U\" unfolds", TextEdges::eachFoldLetter);
        Sentences.test("\"P\" punches, and \"I\" drops ink on a field, which is told by its column and its row, 0 to "
                + "7 each", TextEdges::leastAndMostDigits, TextEdges::digitsOutOfRange,
                TextEdges::columnAheadOfRow);
        Sentences.test("The number is a depth, 1 to 64, without leading zeros", TextEdges::depthsThatAreNumbers,
                TextEdges::depthsTooSmall, TextEdges::depthsTooLarge, TextEdges::depthsAreRead);
        Sentences.test("without it the depth is all layers of the stack", TextEdges::allLayersOfEachStack);
        Sentences.test("The colour is a digit from 1 to 5", TextEdges::leastAndMostColours,
                TextEdges::coloursOutOfRange);
        Sentences.test("A character of the buffer is an error if no text begins with the characters ahead of it and "
                + "this character", TextEdges::errorsAtEachPlace, TextEdges::cutOffTextsHaveNoError);
    }

    private static void append() {
        Sentences.of(23);
        Sentences.test("`int append(int code)`: Appends a character to the buffer",
                TextEdges::appendsAtTheEnd, TextEdges::appendIsNotRecorded);
        Sentences.test("`code`: 33 to 126", TextEdges::leastAndMostCode);
        Sentences.test("Returns the number of characters in the buffer", TextEdges::lengths);
        Sentences.test("BAD_VALUE if code is out of range", TextEdges::codeOutOfRange);
        Sentences.test("LIMIT if the buffer contains 60 characters", TextEdges::limit,
                TextEdges::noLimitAfterTheBufferIsEmptied);
    }

    private static void clearText() {
        Sentences.of(24);
        Sentences.test("`int clearText()`: Empties the buffer and returns the number of characters that it contained",
                TextEdges::clearsNone, TextEdges::clearsSixty, TextEdges::clearedCharactersAreGone,
                TextEdges::clearTextIsNotRecorded);
    }

    private static void errorPosition() {
        Sentences.of(25);
        Sentences.test("`int errorPosition()`: Finds the first error in the buffer", TextEdges::firstOfSeveralErrors,
                () -> Due.onlyLooks("errorPosition()", Papers::full, PunchedFolds::errorPosition, PunchedFolds.NONE));
        Sentences.test("Returns the index of the first character that is an error", TextEdges::leastAndMostIndex);
        Sentences.test("if there is none and the buffer is not a text, the number of characters in the buffer",
                TextEdges::emptyBuffer, TextEdges::cutOffAtEachLength);
        Sentences.test("NONE if the buffer is a text", TextEdges::shortestAndLongestText);
    }

    private static void work() {
        Sentences.of(26);
        Sentences.test("`int work()`: Does the works in the buffer one after the other, up to the first one whose "
                + "method (fold(), unfold(), punch() or ink()) would return an error code, and empties the buffer",
                TextEdges::foldStopsWorks, TextEdges::unfoldStopsWorks, TextEdges::punchStopsWorks,
                TextEdges::inkStopsWorks, TextEdges::inkThatNoCellGetsDoesNotStop, TextEdges::sixtyWorks,
                TextEdges::workEmptiesTheBuffer);
        Sentences.test("The works do not record states", TextEdges::worksAreNotRecorded);
        Sentences.test("the call records one state, also if no work is done", TextEdges::noWorkIsRecorded);
        Sentences.test("Undoable", () -> Due.recorded("work()", Papers::full, PunchedFolds::work, 2),
                () -> Due.recorded("work() of one fold", () -> Papers.written("L"), PunchedFolds::work, 1));
        Sentences.test("Returns the number of works that are done", TextEdges::worksDone);
        Sentences.test("BAD_TEXT if the buffer is not a text (then it stays)", TextEdges::emptyBufferIsNoText,
                TextEdges::bufferStays, TextEdges::worksAheadOfAnErrorAreNotDone);
    }

    private static void error(String text, int due) {
        Due.is("errorPosition() of " + text, Papers.written(text).errorPosition(), due);
    }

    private static void isText(String text) {
        error(text, PunchedFolds.NONE);
    }

    private static void isCutOff(String text) {
        error(text, text.length());
    }

    private static void works(String text, int due) {
        Due.is("work() of " + text, Papers.written(text).work(), due);
    }

    // ---- the terms

    private static void sixtyCharacters() {
        PunchedFolds x = Papers.written(FIFTY_NINE);
        Due.is("the 60th character", x.append('B'), 60);
        Due.is("a 61st character", x.append('B'), PunchedFolds.LIMIT);
        Due.is("the characters in the buffer", x.clearText(), 60);
    }

    private static void noWorkIsNoText() {
        isCutOff("");
        works("", PunchedFolds.BAD_TEXT);
    }

    private static void oneWorkAndMore() {
        isText("U");
        isText("P07:64");
        isText("UL");
        isText("P00I001P00:1");
        isText("P00:1P00:64I775L");
        isText(FIFTY_NINE + "B");
    }

    private static void workThatGoesOnWrongly() {
        error("U0", 1);
        error("P00/", 3);
        error("P00:64:", 6);
        error("I0015", 4);
        error("P00:1/", 5);
        error("P00:1:", 5);
        error("P00:9/", 5);
        error("P00:12/", 6);
    }

    private static void eachWork() {
        for (String work : new String[] {"L", "R", "T", "B", "U", "P34", "P34:5", "P34:56", "I345"}) {
            isText(work);
            isText("U" + work + "U");
        }
    }

    private static void noOtherLetter() {
        for (int code = 33; code <= 126; code++) {
            PunchedFolds x = new PunchedFolds();
            x.append(code);
            int due = "LRTBU".indexOf(code) >= 0 ? PunchedFolds.NONE : code == 'P' || code == 'I' ? 1 : 0;
            Due.is("errorPosition() of the character " + code, x.errorPosition(), due);
        }
    }

    private static void worksThatAreCutOff() {
        for (String text : new String[] {"P", "P3", "P34:", "I", "I3", "I34"}) {
            isCutOff(text);
            isCutOff("LP34" + text);
            works("L" + text, PunchedFolds.BAD_TEXT);
        }
    }

    private static void worksWithWrongCharacters() {
        error("P:", 1);
        error("PL", 1);
        error("P3:", 2);
        error("P3P", 2);
        error("P34;", 3);
        error("P34::", 4);
        error("I:", 1);
        error("II", 1);
        error("I3I", 2);
        error("I3:", 2);
        error("I34:", 3);
        error("I34L", 3);
        error("l", 0);
        error("p00", 0);
        error("i001", 0);
    }

    private static void eachFoldLetter() {
        String letters = "LRTB";
        for (int kind = 0; kind < 4; kind++) {
            PunchedFolds x = Papers.written(letters.substring(kind, kind + 1));
            x.work();
            Due.is("the fold " + letters.charAt(kind), x.foldAt(0), kind);
            Due.write(x, "U");
            x.work();
            Due.is("folds after U", x.size(3), 0);
        }
    }

    private static void leastAndMostDigits() {
        String[] fields = {"00", "07", "70", "77"};
        int[] cells = {0, 56, 7, 63};
        for (int i = 0; i < 4; i++) {
            PunchedFolds x = Papers.written("I" + fields[i] + "4P" + fields[i]);
            Due.is("work() on the field " + fields[i], x.work(), 2);
            Due.is("the colour of the cell " + cells[i], x.colour(cells[i], 0), 4);
            Due.is("the hole of the cell " + cells[i], x.layer(cells[i] % 8, cells[i] / 8, 0, 2), 1);
            Due.is("holes", x.count(0), 1);
        }
    }

    private static void digitsOutOfRange() {
        for (char sign : new char[] {'/', '8', '9', ':', 'a', '-'}) {
            error("P" + sign, 1);
            error("P0" + sign, 2);
            error("I" + sign, 1);
            error("I0" + sign, 2);
        }
    }

    private static void columnAheadOfRow() {
        PunchedFolds x = Papers.written("P61I163");
        x.work();
        Due.is("holes(1)", x.holes(1), 64);
        Due.is("colour(49, 0)", x.colour(49, 0), 3);
    }

    private static void depthsThatAreNumbers() {
        for (int depth = 1; depth <= 64; depth++) {
            isText("P00:" + depth);
            isText("P00:" + depth + "L");
        }
    }

    private static void depthsTooSmall() {
        error("P00:0", 4);
        error("P00:00", 4);
        error("P00:01", 4);
        error("P00:064", 4);
        error("P00:-1", 4);
    }

    private static void depthsTooLarge() {
        error("P00:65", 5);
        error("P00:69", 5);
        error("P00:70", 5);
        error("P00:99", 5);
        error("P00:100", 6);
        error("P00:640", 6);
        error("P00:111", 6);
    }

    private static void depthsAreRead() {
        for (int depth : new int[] {1, 2, 9, 10, 11, 19, 20, 59, 60, 63, 64}) {
            PunchedFolds x = Papers.smallest();
            Due.write(x, "P00:" + depth);
            Due.is("work() of the depth " + depth, x.work(), 1);
            Due.is("holes of the depth " + depth, x.count(0), depth);
        }
    }

    private static void allLayersOfEachStack() {
        for (int folds = 0; folds <= 6; folds++) {
            PunchedFolds x = Papers.sized(folds / 2, folds - folds / 2);
            Due.write(x, "P00");
            Due.is("work() of a punch without a depth", x.work(), 1);
            Due.is("holes of a punch without a depth", x.count(0), 1 << folds);
        }
        PunchedFolds y = Papers.written("P00LP00");
        y.work();
        Due.is("the layers are those that the stack has then", y.count(0), 3);
    }

    private static void leastAndMostColours() {
        for (int colour = 1; colour <= 5; colour++) {
            PunchedFolds x = Papers.written("I00" + colour);
            Due.is("work() of the colour " + colour, x.work(), 1);
            Due.is("the colour", x.colour(0, 0), colour);
        }
    }

    private static void coloursOutOfRange() {
        for (char sign : new char[] {'0', '6', '7', '9', '/', ':', 'L'}) {
            error("I00" + sign, 3);
            error("LI00" + sign, 4);
        }
    }

    private static void errorsAtEachPlace() {
        String text = "LP12:34UI345P67";
        for (int i = 0; i < text.length(); i++) {
            error(text.substring(0, i) + "x", i);
            error(text.substring(0, i) + "x" + text.substring(i), i);
        }
        isText(text);
    }

    private static void cutOffTextsHaveNoError() {
        String text = "LP12:34UI345P67";
        for (int i = 0; i < text.length(); i++) {
            String begin = text.substring(0, i + 1);
            boolean isWhole = begin.matches("([LU]|P[0-7]{2}(:[0-9]{1,2})?|I[0-7]{2}[1-5])+");
            error(begin, isWhole ? PunchedFolds.NONE : begin.length());
        }
    }

    // ---- append

    private static void appendsAtTheEnd() {
        PunchedFolds x = new PunchedFolds();
        x.append('R');
        x.append('B');
        x.work();
        Due.is("the first character", x.foldAt(0), 1);
        Due.is("the second character", x.foldAt(1), 3);
    }

    private static void appendIsNotRecorded() {
        PunchedFolds x = new PunchedFolds();
        x.append('L');
        Due.is("undo() after append()", x.undo(), PunchedFolds.NOT_POSSIBLE);
    }

    private static void leastAndMostCode() {
        PunchedFolds x = new PunchedFolds();
        Due.is("append(33)", x.append(33), 1);
        Due.is("append(126)", x.append(126), 2);
        Due.is("append(32)", x.append(32), PunchedFolds.BAD_VALUE);
        Due.is("append(127)", x.append(127), PunchedFolds.BAD_VALUE);
        Due.is("clearText()", x.clearText(), 2);
    }

    private static void lengths() {
        PunchedFolds x = new PunchedFolds();
        for (int length = 1; length <= 60; length++) {
            Due.is("append()", x.append(32 + length), length);
        }
    }

    private static void codeOutOfRange() {
        for (int code : new int[] {32, 127, 0, -1, 256 + 'L', 65536 + 'L', Papers.LEAST, Papers.MOST}) {
            PunchedFolds x = new PunchedFolds();
            Due.is("append(" + code + ")", x.append(code), PunchedFolds.BAD_VALUE);
            Due.is("the characters in the buffer", x.clearText(), 0);
        }
    }

    private static void limit() {
        PunchedFolds x = Papers.written(FIFTY_NINE + "B");
        Due.is("append() to 60 characters", x.append('P'), PunchedFolds.LIMIT);
        Due.is("append() to 60 characters again", x.append('x'), PunchedFolds.LIMIT);
        Due.is("the buffer stays a text", x.errorPosition(), PunchedFolds.NONE);
        Due.is("append(33) to 59 characters", Papers.written(FIFTY_NINE).append(33), 60);
    }

    private static void noLimitAfterTheBufferIsEmptied() {
        PunchedFolds x = Papers.written(FIFTY_NINE + "B");
        x.clearText();
        Due.is("append() after clearText()", x.append('L'), 1);
        PunchedFolds y = Papers.written(FIFTY_NINE + "B");
        y.work();
        Due.is("append() after work()", y.append('L'), 1);
    }

    // ---- clearText

    private static void clearsNone() {
        Due.is("clearText() of an empty buffer", new PunchedFolds().clearText(), 0);
        PunchedFolds x = Papers.written("Lx");
        Due.is("clearText()", x.clearText(), 2);
        Due.is("clearText() again", x.clearText(), 0);
    }

    private static void clearsSixty() {
        PunchedFolds x = Papers.written(FIFTY_NINE + "x");
        Due.is("clearText() of a full buffer", x.clearText(), 60);
        Due.is("clearText() again", x.clearText(), 0);
    }

    private static void clearedCharactersAreGone() {
        PunchedFolds x = Papers.written("LLLx");
        x.clearText();
        Due.is("errorPosition() after clearText()", x.errorPosition(), 0);
        Due.write(x, "R");
        Due.is("errorPosition() of another text", x.errorPosition(), PunchedFolds.NONE);
        Due.is("work() of another text", x.work(), 1);
    }

    private static void clearTextIsNotRecorded() {
        PunchedFolds x = Papers.written("L");
        x.clearText();
        Due.is("undo() after clearText()", x.undo(), PunchedFolds.NOT_POSSIBLE);
    }

    // ---- errorPosition

    private static void firstOfSeveralErrors() {
        error("xx", 0);
        error("LxLx", 1);
        error("P8P8", 1);
        error("LP00:65P9", 6);
    }

    private static void leastAndMostIndex() {
        error("x", 0);
        error("x" + FIFTY_NINE, 0);
        error(FIFTY_NINE + "x", 59);
        error(FIFTY_NINE + "0", 59);
    }

    private static void emptyBuffer() {
        error("", 0);
        PunchedFolds x = Papers.written("L");
        x.work();
        Due.is("errorPosition() after work()", x.errorPosition(), 0);
    }

    private static void cutOffAtEachLength() {
        for (int ahead = 0; ahead < 60; ahead++) {
            String text = (FIFTY_NINE + "B").substring(0, ahead);
            isCutOff(text + "P");
            if (ahead < 59) {
                isCutOff(text + "I7");
            }
            if (ahead < 57) {
                isCutOff(text + "P00:");
            }
        }
    }

    private static void shortestAndLongestText() {
        isText("B");
        isText(FIFTY_NINE + "U");
        isText(FIFTY_NINE.substring(5) + "P77:64");
        isText(FIFTY_NINE.substring(3) + "I775");
    }

    // ---- work

    private static void foldStopsWorks() {
        works("LLLLT", 3);
        works("RRRRB", 3);
        works("TTTTL", 3);
        works("BBBBR", 3);
        PunchedFolds x = Papers.smallest();
        Due.write(x, "LU");
        Due.is("a fold that is not possible at first", x.work(), 0);
        Due.is("folds then", x.size(3), 6);
    }

    private static void unfoldStopsWorks() {
        works("U", 0);
        works("UL", 0);
        works("LUUL", 2);
    }

    private static void punchStopsWorks() {
        works("P00:2L", 0);
        works("LP00:2LP00:5R", 3);
        works("LP30P40R", 2);
        works("TP03P04R", 2);
        PunchedFolds x = Papers.written("P10P00:2P20");
        Due.is("work()", x.work(), 1);
        Due.is("the punch ahead of the error is made, the ones after it are not", x.holes(0), 2);
    }

    private static void inkStopsWorks() {
        works("LI301I401R", 2);
        works("TI031I041R", 2);
        PunchedFolds x = Papers.written("LI305I405I205");
        x.work();
        Due.is("the ink ahead of the error", x.count(3), 1);
    }

    private static void inkThatNoCellGetsDoesNotStop() {
        works("P00I001L", 3);
        works("P00P00I001", 3);
    }

    private static void sixtyWorks() {
        works(FIFTY_NINE + "B", 60);
        PunchedFolds x = Papers.written(FIFTY_NINE + "B");
        x.work();
        Due.is("the last work is done", x.foldAt(1), 3);
    }

    private static void workEmptiesTheBuffer() {
        for (String text : new String[] {"L", "U", "LUUL", FIFTY_NINE + "B"}) {
            PunchedFolds x = Papers.written(text);
            x.work();
            Due.is("the characters after work() of " + text, x.clearText(), 0);
            Due.is("work() of the empty buffer", x.work(), PunchedFolds.BAD_TEXT);
        }
    }

    private static void worksAreNotRecorded() {
        PunchedFolds x = Papers.written("LTLTLTUUUUUU");
        x.work();
        Due.is("undo() after twelve works", x.undo(), 0);
        Due.is("folds then", x.size(3), 0);
        PunchedFolds y = new PunchedFolds();
        for (int mask = 1; mask <= 4; mask++) {
            y.aim(0, mask);
        }
        Due.write(y, "LTLTLT");
        y.work();
        for (int states = 4; states >= 0; states--) {
            Due.is("undo()", y.undo(), states);
            Due.is("target(0)", y.target(0), states);
        }
    }

    private static void noWorkIsRecorded() {
        Due.recorded("work() of which no work is done", () -> Papers.written("UL"), PunchedFolds::work, 0);
        PunchedFolds x = Papers.folded(0);
        Due.write(x, "LLLLLL");
        x.work();
        Due.write(x, "L");
        Due.is("no work is done", x.work(), 0);
        Due.is("undo() of it", x.undo(), 2);
        Due.is("undo() of the works ahead", x.undo(), 1);
        Due.is("folds then", x.size(3), 1);
    }

    private static void worksDone() {
        works("L", 1);
        works("P00:1", 1);
        works("LRTBU", 5);
        works("LTUP30:2I031P30", 6);
        works("U", 0);
    }

    private static void emptyBufferIsNoText() {
        Due.is("work() of an empty buffer", new PunchedFolds().work(), PunchedFolds.BAD_TEXT);
    }

    private static void bufferStays() {
        for (String text : new String[] {"x", "LP0", "LP08", "I00", "P00:", "P00:65", FIFTY_NINE + "P"}) {
            PunchedFolds x = Papers.written(text);
            Due.is("work() of " + text, x.work(), PunchedFolds.BAD_TEXT);
            Due.is("the buffer stays", x.clearText(), text.length());
        }
        PunchedFolds y = Papers.written("LP0");
        y.work();
        y.append('0');
        Due.is("the rest of a text that was cut off", y.work(), 2);
    }

    private static void worksAheadOfAnErrorAreNotDone() {
        PunchedFolds x = Papers.written("LP00I001x");
        x.work();
        Due.is("folds", x.size(3), 0);
        Due.is("holes", x.count(0), 0);
        Due.is("sides with a colour", x.count(3), 0);
        Due.is("recorded states", x.undo(), PunchedFolds.NOT_POSSIBLE);
    }
}
