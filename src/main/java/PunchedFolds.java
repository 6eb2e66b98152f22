/** A sheet of paper that is folded, punched, inked and mended. DOC.md says what each method answers. */
public final class PunchedFolds {
    public static final int NO_SUCH = -1;
    public static final int BAD_VALUE = -2;
    public static final int NOT_POSSIBLE = -3;
    public static final int LIMIT = -4;
    public static final int BAD_TEXT = -5;
    public static final int NONE = -6;

    private static final int EDGE = 8;
    private static final int CELLS = 64;
    private static final int SIDES = 128;
    private static final int FOLD_KINDS = 4;
    private static final int MOST_FOLDS_OF_A_WAY = 3;
    private static final int MOST_FOLDS = 6;
    private static final int MOST_COLOUR = 5;
    private static final int MOST_RECORDED = 5;
    private static final int MOST_CHARACTERS = 60;
    private static final int MOST_DEPTH = 64;
    private static final int FIRST_CODE = 33;
    private static final int LAST_CODE = 126;
    private static final int FULL_ROW = 255;
    private static final int NO_DIGIT = -1;
    private static final int NO_CHARACTER = -1;
    private static final int ALL_LAYERS = 0;

    private final Sheet now;
    private final Sheet saved;
    private boolean isSaved;
    private final History history;
    private final Folding trial;
    private final Works text;

    public PunchedFolds() {
        now = new Sheet();
        saved = new Sheet();
        isSaved = false;
        history = new History();
        trial = new Folding();
        text = new Works();
    }

    // ---- folds

    public int fold(int fold) {
        history.note(now);
        return keepUnlessError(now.makeFold(fold));
    }

    public int unfold() {
        history.note(now);
        return keepUnlessError(now.takeFoldBack());
    }

    public int open() {
        history.note(now);
        return keepUnlessError(now.takeAllFoldsBack());
    }

    public int size(int part) {
        switch (part) {
            case 0:
                return now.folding.columns();
            case 1:
                return now.folding.rows();
            case 2:
                return now.folding.layers();
            case 3:
                return now.folding.made;
            default:
                return BAD_VALUE;
        }
    }

    public int foldAt(int index) {
        return now.folding.hasFold(index) ? now.folding.kindOf(index) : NO_SUCH;
    }

    // ---- holes and ink

    public int punch(int column, int row, int depth) {
        history.note(now);
        return keepUnlessError(now.makeHoles(column, row, depth));
    }

    public int ink(int column, int row, int colour) {
        history.note(now);
        return keepUnlessError(now.dropInk(column, row, colour));
    }

    public int mend(int column, int row) {
        history.note(now);
        return keepUnlessError(now.mendTop(column, row));
    }

    // ---- what there is

    public int layer(int column, int row, int index, int part) {
        if (!now.folding.hasLayer(column, row, index)) {
            return NO_SUCH;
        }
        int side = now.folding.upperSide(column, row, index);
        switch (part) {
            case 0:
                return cellOf(side);
            case 1:
                return side & 1;
            case 2:
                return hasCell(now.pattern, cellOf(side)) ? 1 : 0;
            case 3:
                return now.colourOf(side);
            default:
                return BAD_VALUE;
        }
    }

    public int seen(int column, int row) {
        if (!now.folding.hasField(column, row)) {
            return NO_SUCH;
        }
        int side = now.uppermostWhole(column, row);
        return side == NONE ? NONE : 10 * cellOf(side) + now.colourOf(side);
    }

    public int where(int cell, int part) {
        if (!isCell(cell)) {
            return NO_SUCH;
        }
        return part < 0 || part > 3 ? BAD_VALUE : now.folding.placeOf(cell, part);
    }

    public int colour(int cell, int side) {
        if (!isCell(cell)) {
            return NO_SUCH;
        }
        return side < 0 || side > 1 ? BAD_VALUE : now.colourOf(2 * cell + side);
    }

    public int holes(int row) {
        return isRow(row) ? maskOfRow(now.pattern, row) : NO_SUCH;
    }

    public int count(int what) {
        switch (what) {
            case 0:
                return Long.bitCount(now.pattern);
            case 1:
                return Pieces.numberIn(~now.pattern);
            case 2:
                return Pieces.largestIn(~now.pattern);
            case 3:
                return now.colouredSides();
            case 4:
                return Long.bitCount(now.goal);
            case 5:
                return Long.bitCount(now.pattern ^ now.goal);
            default:
                return BAD_VALUE;
        }
    }

    public int symmetries() {
        int mask = 15;
        for (int cell = 0; cell < CELLS; cell++) {
            mask &= symmetriesAt(now.pattern, cell);
        }
        return mask;
    }

    // ---- the target

    public int aim(int row, int mask) {
        history.note(now);
        return keepUnlessError(now.changeGoal(row, mask));
    }

    public int aimHere() {
        history.note(now);
        now.goal = now.pattern;
        return keepUnlessError(Long.bitCount(now.goal));
    }

    public int target(int row) {
        return isRow(row) ? maskOfRow(now.goal, row) : NO_SUCH;
    }

    // ---- predictions; they change nothing

    public int punches() {
        return now.folding.punchesFor(now.goal);
    }

    public int bestFolds() {
        int best = 0;
        int fewest = CELLS + 1;
        // The better of two equal ones comes first, so only fewer punches replace the best one.
        for (int folds = 0; folds <= MOST_FOLDS; folds++) {
            for (int across = 0; across <= folds; across++) {
                int needed = punchesOfTrial(across, folds - across);
                if (needed != NONE && needed < fewest) {
                    fewest = needed;
                    best = 10 * across + folds - across;
                }
            }
        }
        return best;
    }

    public int ifPunched(int column, int row) {
        if (!now.folding.hasField(column, row)) {
            return NO_SUCH;
        }
        long punched = now.folding.uppermostCells(column, row, now.folding.layers());
        return Pieces.numberIn(~(now.pattern | punched));
    }

    // ---- texts

    public int append(int code) {
        if (code < FIRST_CODE || code > LAST_CODE) {
            return BAD_VALUE;
        }
        return text.addCharacter(code) ? text.length : LIMIT;
    }

    public int clearText() {
        int length = text.length;
        text.length = 0;
        return length;
    }

    public int errorPosition() {
        return text.firstError();
    }

    public int work() {
        if (text.firstError() != NONE) {
            return BAD_TEXT;
        }
        history.note(now);
        text.position = 0;
        int done = 0;
        while (done < MOST_CHARACTERS && text.readWork() && !isError(doWorkRead())) {
            done++;
        }
        text.length = 0;
        return keepUnlessError(done);
    }

    // ---- undo, saved state

    public int undo() {
        return history.giveBack(now) ? history.kept : NOT_POSSIBLE;
    }

    public int save() {
        saved.becomeLike(now);
        isSaved = true;
        return saved.folding.made;
    }

    public int restore() {
        if (!isSaved) {
            return NOT_POSSIBLE;
        }
        history.note(now);
        now.becomeLike(saved);
        return keepUnlessError(now.folding.made);
    }

    // ---- parts of the calls

    private int keepUnlessError(int answer) {
        if (!isError(answer)) {
            history.keepNoted();
        }
        return answer;
    }

    private int punchesOfTrial(int across, int down) {
        if (across > MOST_FOLDS_OF_A_WAY || down > MOST_FOLDS_OF_A_WAY) {
            return NONE;
        }
        trial.foldAnew(across, down);
        return trial.punchesFor(now.goal);
    }

    private int doWorkRead() {
        switch (text.letter) {
            case 'L':
                return now.makeFold(0);
            case 'R':
                return now.makeFold(1);
            case 'T':
                return now.makeFold(2);
            case 'B':
                return now.makeFold(3);
            case 'U':
                return now.takeFoldBack();
            case 'P':
                return now.makeHoles(text.column, text.row, depthRead());
            default:
                return now.dropInk(text.column, text.row, text.number);
        }
    }

    private int depthRead() {
        return text.number == ALL_LAYERS ? now.folding.layers() : text.number;
    }

    private static boolean isError(int answer) {
        return answer < 0 && answer != NONE;
    }

    private static boolean isCell(int cell) {
        return cell >= 0 && cell < CELLS;
    }

    private static boolean isRow(int row) {
        return row >= 0 && row < EDGE;
    }

    private static int cellOf(int side) {
        return side >> 1;
    }

    // A set of cells is a long: the bit with the number of a cell is 1 if the cell belongs to it.

    private static boolean hasCell(long cells, int cell) {
        return (cells >>> cell & 1L) == 1L;
    }

    private static int maskOfRow(long cells, int row) {
        return (int) (cells >>> EDGE * row) & FULL_ROW;
    }

    private static int symmetriesAt(long cells, int cell) {
        int column = cell % EDGE;
        int row = cell / EDGE;
        int mirroredColumn = EDGE - 1 - column;
        int mirroredRow = EDGE - 1 - row;
        boolean here = hasCell(cells, cell);
        int mask = here == hasCell(cells, EDGE * row + mirroredColumn) ? 1 : 0;
        mask |= here == hasCell(cells, EDGE * mirroredRow + column) ? 2 : 0;
        mask |= here == hasCell(cells, EDGE * mirroredRow + mirroredColumn) ? 4 : 0;
        return mask | (here == hasCell(cells, EDGE * column + row) ? 8 : 0);
    }

    /** The folds that were made and not taken back. No stack is held: each one follows from them. */
    private static final class Folding {
        final int[] kinds = new int[MOST_FOLDS];
        int made = 0;
        int madeAcross = 0;

        void becomeLike(Folding other) {
            System.arraycopy(other.kinds, 0, kinds, 0, kinds.length);
            made = other.made;
            madeAcross = other.madeAcross;
        }

        void takeAllBack() {
            made = 0;
            madeAcross = 0;
        }

        void foldAnew(int across, int down) {
            takeAllBack();
            for (int i = 0; i < across; i++) {
                addFold(1);
            }
            for (int i = 0; i < down; i++) {
                addFold(3);
            }
        }

        void addFold(int kind) {
            if (made >= 0 && made < kinds.length) {
                kinds[made] = kind;
                made++;
                madeAcross += isAcross(kind) ? 1 : 0;
            }
        }

        int takeLatestBack() {
            int kind = kindOf(made - 1);
            made--;
            madeAcross -= isAcross(kind) ? 1 : 0;
            return kind;
        }

        boolean hasFold(int index) {
            return index >= 0 && index < made;
        }

        int kindOf(int index) {
            return index >= 0 && index < kinds.length ? kinds[index] : 0;
        }

        static boolean isAcross(int kind) {
            return kind < 2;
        }

        /** Whether the left or the upper half is the one that moves. */
        static boolean movesFirstHalf(int kind) {
            return kind % 2 == 0;
        }

        int columns() {
            return EDGE >> madeAcross;
        }

        int rows() {
            return EDGE >> (made - madeAcross);
        }

        int layers() {
            return 1 << made;
        }

        boolean hasField(int column, int row) {
            return column >= 0 && column < columns() && row >= 0 && row < rows();
        }

        boolean hasLayer(int column, int row, int index) {
            return hasField(column, row) && index >= 0 && index < layers();
        }

        /** The side that is up in a layer: 2 * the number of its cell, + 1 if it is the back. */
        int upperSide(int column, int row, int index) {
            int c = column;
            int r = row;
            int i = index;
            int up = 0;
            int width = columns();
            int height = rows();
            int layers = layers();
            for (int latest = made - 1; latest >= 0; latest--) {
                int kind = kindOf(latest);
                boolean firstMoved = movesFirstHalf(kind);
                layers = layers / 2;
                boolean moved = i < layers;
                if (isAcross(kind)) {
                    c = placeAhead(c, width, firstMoved, moved);
                    width = 2 * width;
                } else {
                    r = placeAhead(r, height, firstMoved, moved);
                    height = 2 * height;
                }
                i = moved ? layers - 1 - i : i - layers;
                up = moved ? 1 - up : up;
            }
            return 2 * (EDGE * r + c) + up;
        }

        /** The column or row, ahead of a fold, of what lies at a place after it; half of the places remain. */
        static int placeAhead(int place, int half, boolean firstMoved, boolean moved) {
            int remaining = firstMoved ? half + place : place;
            return moved ? 2 * half - 1 - remaining : remaining;
        }

        /** Where a cell is: its column, row, index or the side that is up, for the parts 0 to 3. */
        int placeOf(int cell, int part) {
            int column = cell % EDGE;
            int row = cell / EDGE;
            int index = 0;
            int up = 0;
            int width = EDGE;
            int height = EDGE;
            for (int i = 0; i < made; i++) {
                int kind = kindOf(i);
                boolean across = isAcross(kind);
                int half = (across ? width : height) / 2;
                boolean firstMoved = movesFirstHalf(kind);
                boolean isInFirst = (across ? column : row) < half;
                boolean moved = isInFirst == firstMoved;
                if (across) {
                    column = placeAfter(column, half, firstMoved, moved);
                    width = half;
                } else {
                    row = placeAfter(row, half, firstMoved, moved);
                    height = half;
                }
                int layers = 1 << i;
                index = moved ? layers - 1 - index : layers + index;
                up = moved ? 1 - up : up;
            }
            return part == 0 ? column : part == 1 ? row : part == 2 ? index : up;
        }

        /** The column or row, after a fold, of what lay at a place ahead of it. */
        static int placeAfter(int place, int half, boolean firstMoved, boolean moved) {
            int remaining = moved ? 2 * half - 1 - place : place;
            return firstMoved ? remaining - half : remaining;
        }

        long uppermostCells(int column, int row, int depth) {
            long cells = 0L;
            for (int index = 0; index < depth; index++) {
                cells |= 1L << cellOf(upperSide(column, row, index));
            }
            return cells;
        }

        /** The punches through all layers that make the goal, or NONE. */
        int punchesFor(long goal) {
            int columns = columns();
            int rows = rows();
            int punches = 0;
            for (int row = 0; row < rows; row++) {
                for (int column = 0; column < columns; column++) {
                    long cells = uppermostCells(column, row, layers());
                    long wanted = cells & goal;
                    if (wanted != 0L && wanted != cells) {
                        return NONE;
                    }
                    punches += wanted == cells ? 1 : 0;
                }
            }
            return punches;
        }
    }

    /** A state: everything that undo() and restore() bring back. */
    private static final class Sheet {
        final Folding folding = new Folding();
        final int[] colours = new int[SIDES];
        long pattern = 0L;
        long goal = 0L;

        void becomeLike(Sheet other) {
            folding.becomeLike(other.folding);
            System.arraycopy(other.colours, 0, colours, 0, colours.length);
            pattern = other.pattern;
            goal = other.goal;
        }

        int makeFold(int kind) {
            if (kind < 0 || kind >= FOLD_KINDS) {
                return BAD_VALUE;
            }
            int extent = Folding.isAcross(kind) ? folding.columns() : folding.rows();
            if (extent < 2) {
                return NOT_POSSIBLE;
            }
            folding.addFold(kind);
            return folding.layers();
        }

        int takeFoldBack() {
            return folding.made > 0 ? folding.takeLatestBack() : NOT_POSSIBLE;
        }

        int takeAllFoldsBack() {
            int folds = folding.made;
            folding.takeAllBack();
            return folds;
        }

        int makeHoles(int column, int row, int depth) {
            if (!folding.hasField(column, row)) {
                return NO_SUCH;
            }
            if (depth < 1 || depth > folding.layers()) {
                return BAD_VALUE;
            }
            int holesAhead = Long.bitCount(pattern);
            pattern |= folding.uppermostCells(column, row, depth);
            return Long.bitCount(pattern) - holesAhead;
        }

        int dropInk(int column, int row, int colour) {
            if (!folding.hasField(column, row)) {
                return NO_SUCH;
            }
            if (colour < 1 || colour > MOST_COLOUR) {
                return BAD_VALUE;
            }
            int side = uppermostWhole(column, row);
            if (side == NONE) {
                return NONE;
            }
            setColour(side, colour);
            return cellOf(side);
        }

        int mendTop(int column, int row) {
            if (!folding.hasField(column, row)) {
                return NO_SUCH;
            }
            int cell = cellOf(folding.upperSide(column, row, 0));
            if (!hasCell(pattern, cell)) {
                return NOT_POSSIBLE;
            }
            pattern &= ~(1L << cell);
            setColour(2 * cell, 0);
            setColour(2 * cell + 1, 0);
            return cell;
        }

        int changeGoal(int row, int mask) {
            if (!isRow(row)) {
                return NO_SUCH;
            }
            if (mask < 0 || mask > FULL_ROW) {
                return BAD_VALUE;
            }
            int previous = maskOfRow(goal, row);
            goal ^= (long) (previous ^ mask) << EDGE * row;
            return previous;
        }

        /** The side that is up in the uppermost layer without a hole, or NONE. */
        int uppermostWhole(int column, int row) {
            int layers = folding.layers();
            for (int index = 0; index < layers; index++) {
                int side = folding.upperSide(column, row, index);
                if (!hasCell(pattern, cellOf(side))) {
                    return side;
                }
            }
            return NONE;
        }

        int colourOf(int side) {
            return side >= 0 && side < colours.length ? colours[side] : 0;
        }

        void setColour(int side, int colour) {
            if (side >= 0 && side < colours.length) {
                colours[side] = colour;
            }
        }

        int colouredSides() {
            int sides = 0;
            for (int side = 0; side < colours.length; side++) {
                sides += colours[side] != 0 ? 1 : 0;
            }
            return sides;
        }
    }

    /** The pieces of a set of whole cells. */
    private static final class Pieces {
        static final long LEFT_COLUMN = 0x0101010101010101L;
        static final long RIGHT_COLUMN = 0x8080808080808080L;

        static int numberIn(long whole) {
            long rest = whole;
            int number = 0;
            for (int i = 0; i < CELLS && rest != 0L; i++) {
                rest &= ~firstOf(rest);
                number++;
            }
            return number;
        }

        static int largestIn(long whole) {
            long rest = whole;
            int largest = 0;
            for (int i = 0; i < CELLS && rest != 0L; i++) {
                long piece = firstOf(rest);
                rest &= ~piece;
                largest = Math.max(largest, Long.bitCount(piece));
            }
            return largest;
        }

        /** The piece of the cell with the lowest number. */
        static long firstOf(long whole) {
            long piece = whole & -whole;
            long grown = piece | besideOf(piece) & whole;
            for (int i = 0; i < CELLS && grown != piece; i++) {
                piece = grown;
                grown = piece | besideOf(piece) & whole;
            }
            return grown;
        }

        static long besideOf(long cells) {
            long inRow = (cells & ~RIGHT_COLUMN) << 1 | (cells & ~LEFT_COLUMN) >>> 1;
            return inRow | cells << EDGE | cells >>> EDGE;
        }
    }

    /** The recorded states, the oldest one first. */
    private static final class History {
        // One more than are kept: a state is noted ahead of a call that may still return an error code.
        final Sheet[] sheets = new Sheet[MOST_RECORDED + 1];
        int kept = 0;

        History() {
            for (int i = 0; i < sheets.length; i++) {
                sheets[i] = new Sheet();
            }
        }

        Sheet sheetAt(int index) {
            return index >= 0 && index < sheets.length ? sheets[index] : null;
        }

        void note(Sheet sheet) {
            Sheet noted = sheetAt(kept);
            if (noted != null) {
                noted.becomeLike(sheet);
            }
        }

        void keepNoted() {
            if (kept < MOST_RECORDED) {
                kept++;
                return;
            }
            // The sheet of the oldest state becomes the one on which the next state is noted.
            Sheet oldest = sheets[0];
            for (int i = 1; i < sheets.length; i++) {
                sheets[i - 1] = sheets[i];
            }
            sheets[sheets.length - 1] = oldest;
        }

        boolean giveBack(Sheet sheet) {
            Sheet latest = sheetAt(kept - 1);
            if (latest == null) {
                return false;
            }
            sheet.becomeLike(latest);
            kept--;
            return true;
        }
    }

    /** The buffer, and the work in it that was read last. */
    private static final class Works {
        final int[] characters = new int[MOST_CHARACTERS];
        int length = 0;
        int position = 0;
        int letter = NO_CHARACTER;
        int column = 0;
        int row = 0;
        int number = 0;

        boolean addCharacter(int code) {
            if (length < 0 || length >= characters.length) {
                return false;
            }
            characters[length] = code;
            length++;
            return true;
        }

        int currentCharacter() {
            boolean isInside = position >= 0 && position < length && position < characters.length;
            return isInside ? characters[position] : NO_CHARACTER;
        }

        /** NONE for a text; otherwise where the first error is, or the length if only characters are missing. */
        int firstError() {
            position = 0;
            boolean isRead = readWork();
            for (int works = 1; works < MOST_CHARACTERS && isRead && position < length; works++) {
                isRead = readWork();
            }
            return isRead ? NONE : position;
        }

        /** Reads the work at the position; if there is none, the position is where its first error is then. */
        boolean readWork() {
            letter = currentCharacter();
            switch (letter) {
                case 'L':
                case 'R':
                case 'T':
                case 'B':
                case 'U':
                    position++;
                    return true;
                case 'P':
                    position++;
                    return readField() && readDepth();
                case 'I':
                    position++;
                    return readField() && readColour();
                default:
                    return false;
            }
        }

        boolean readField() {
            column = readDigit(0, EDGE - 1);
            if (column == NO_DIGIT) {
                return false;
            }
            row = readDigit(0, EDGE - 1);
            return row != NO_DIGIT;
        }

        boolean readColour() {
            number = readDigit(1, MOST_COLOUR);
            return number != NO_DIGIT;
        }

        boolean readDepth() {
            number = ALL_LAYERS;
            if (currentCharacter() != ':') {
                return true;
            }
            position++;
            number = readDigit(1, 9);
            if (number == NO_DIGIT) {
                return false;
            }
            // A digit that would make the number too large is left, and is an error where a work is due.
            int second = readDigit(0, Math.min(9, MOST_DEPTH - 10 * number));
            number = second == NO_DIGIT ? number : 10 * number + second;
            return true;
        }

        int readDigit(int least, int most) {
            int digit = currentCharacter() - '0';
            if (digit < least || digit > most) {
                return NO_DIGIT;
            }
            position++;
            return digit;
        }
    }
}
