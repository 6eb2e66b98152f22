import java.util.ArrayDeque;
import java.util.ArrayList;
import java.util.Arrays;
import java.util.Collections;
import java.util.HashSet;
import java.util.List;
import java.util.Set;
import java.util.regex.Pattern;

/**
 * The document's words once more, in another form: stacks that are really folded, texts as regular expressions,
 * folds that are all tried. It is slow and free of the program's ideas, to compare the program with.
 */
final class Model {
    static final int NO_SUCH = -1;
    static final int BAD_VALUE = -2;
    static final int NOT_POSSIBLE = -3;
    static final int LIMIT = -4;
    static final int BAD_TEXT = -5;
    static final int NONE = -6;

    private static final String WORK =
            "([LRTBU]|P[0-7][0-7](:([1-5][0-9]|6[0-4]|[1-9]))?|I[0-7][0-7][1-5])";
    private static final Pattern TEXT = Pattern.compile(WORK + "+");
    private static final Pattern FIRST_WORK = Pattern.compile("^" + WORK);
    private static final String[] ENDS = {"", "L", "0", "1", "00", "01", "001"};
    private static final Set<Way> WAYS = allWays();

    private record Layer(int cell, int side) {
        Layer turned() {
            return new Layer(cell, 1 - side);
        }
    }

    /** The folds of both ways that lead to fields with these sets of cells. */
    private record Way(int across, int down, Set<Set<Integer>> fields) {
    }

    private static final class State {
        List<List<List<Layer>>> rows = new ArrayList<>();
        List<Integer> folds = new ArrayList<>();
        boolean[] hole = new boolean[64];
        int[][] colour = new int[64][2];
        boolean[] target = new boolean[64];

        State() {
            for (int r = 0; r < 8; r++) {
                List<List<Layer>> row = new ArrayList<>();
                for (int c = 0; c < 8; c++) {
                    row.add(new ArrayList<>(List.of(new Layer(8 * r + c, 0))));
                }
                rows.add(row);
            }
        }

        State copy() {
            State copy = new State();
            copy.rows = copyOf(rows);
            copy.folds = new ArrayList<>(folds);
            copy.hole = hole.clone();
            copy.target = target.clone();
            for (int cell = 0; cell < 64; cell++) {
                copy.colour[cell] = colour[cell].clone();
            }
            return copy;
        }

        int width() {
            return rows.get(0).size();
        }

        int height() {
            return rows.size();
        }

        List<Layer> field(int column, int row) {
            if (column < 0 || row < 0 || column >= width() || row >= height()) {
                return null;
            }
            return rows.get(row).get(column);
        }

        int fold(int kind) {
            if (kind < 0 || kind > 3) {
                return BAD_VALUE;
            }
            int w = width();
            int h = height();
            if (kind < 2 ? w == 1 : h == 1) {
                return NOT_POSSIBLE;
            }
            for (int r = 0; r < h; r++) {
                for (int c = 0; c < w; c++) {
                    boolean moves = switch (kind) {
                        case 0 -> c < w / 2;
                        case 1 -> c >= w / 2;
                        case 2 -> r < h / 2;
                        default -> r >= h / 2;
                    };
                    if (moves) {
                        List<Layer> under = kind < 2 ? field(w - 1 - c, r) : field(c, h - 1 - r);
                        under.addAll(0, turnedOver(field(c, r)));
                    }
                }
            }
            switch (kind) {
                case 0 -> rows.forEach(row -> row.subList(0, w / 2).clear());
                case 1 -> rows.forEach(row -> row.subList(w / 2, w).clear());
                case 2 -> rows.subList(0, h / 2).clear();
                default -> rows.subList(h / 2, h).clear();
            }
            folds.add(kind);
            return field(0, 0).size();
        }

        int unfold() {
            if (folds.isEmpty()) {
                return NOT_POSSIBLE;
            }
            int kind = folds.remove(folds.size() - 1);
            int w = width();
            int h = height();
            List<List<List<Layer>>> taken = new ArrayList<>();
            for (int r = 0; r < h; r++) {
                List<List<Layer>> row = new ArrayList<>();
                for (int c = 0; c < w; c++) {
                    List<Layer> stack = field(c, r);
                    List<Layer> upper = stack.subList(0, stack.size() / 2);
                    row.add(turnedOver(upper));
                    upper.clear();
                }
                taken.add(row);
            }
            if (kind < 2) {
                for (int r = 0; r < h; r++) {
                    Collections.reverse(taken.get(r));
                    rows.get(r).addAll(kind == 0 ? 0 : w, taken.get(r));
                }
            } else {
                Collections.reverse(taken);
                rows.addAll(kind == 2 ? 0 : h, taken);
            }
            return kind;
        }

        int punch(int column, int row, int depth) {
            List<Layer> stack = field(column, row);
            if (stack == null) {
                return NO_SUCH;
            }
            if (depth < 1 || depth > stack.size()) {
                return BAD_VALUE;
            }
            int made = 0;
            for (Layer layer : stack.subList(0, depth)) {
                if (!hole[layer.cell]) {
                    made++;
                }
                hole[layer.cell] = true;
            }
            return made;
        }

        Layer firstWhole(List<Layer> stack) {
            for (Layer layer : stack) {
                if (!hole[layer.cell]) {
                    return layer;
                }
            }
            return null;
        }

        int ink(int column, int row, int tint) {
            List<Layer> stack = field(column, row);
            if (stack == null) {
                return NO_SUCH;
            }
            if (tint < 1 || tint > 5) {
                return BAD_VALUE;
            }
            Layer layer = firstWhole(stack);
            if (layer == null) {
                return NONE;
            }
            colour[layer.cell][layer.side] = tint;
            return layer.cell;
        }
    }

    private State state = new State();
    private State saved = null;
    private final List<State> recorded = new ArrayList<>();
    private String buffer = "";

    private static List<List<List<Layer>>> copyOf(List<List<List<Layer>>> rows) {
        List<List<List<Layer>>> copy = new ArrayList<>();
        for (List<List<Layer>> row : rows) {
            List<List<Layer>> copiedRow = new ArrayList<>();
            row.forEach(stack -> copiedRow.add(new ArrayList<>(stack)));
            copy.add(copiedRow);
        }
        return copy;
    }

    private static List<Layer> turnedOver(List<Layer> stack) {
        List<Layer> turned = new ArrayList<>();
        for (Layer layer : stack) {
            turned.add(0, layer.turned());
        }
        return turned;
    }

    private static Set<Way> allWays() {
        Set<Way> ways = new HashSet<>();
        addWays(ways, new State());
        return ways;
    }

    private static void addWays(Set<Way> ways, State state) {
        int across = (int) state.folds.stream().filter(kind -> kind < 2).count();
        Set<Set<Integer>> fields = new HashSet<>();
        for (List<List<Layer>> row : state.rows) {
            for (List<Layer> stack : row) {
                Set<Integer> cells = new HashSet<>();
                stack.forEach(layer -> cells.add(layer.cell));
                fields.add(cells);
            }
        }
        ways.add(new Way(across, state.folds.size() - across, fields));
        for (int kind = 0; kind < 4; kind++) {
            State next = state.copy();
            if (next.fold(kind) > 0) {
                addWays(ways, next);
            }
        }
    }

    private int answered(State before, int answer) {
        if (answer >= 0 || answer == NONE) {
            recorded.add(before);
            if (recorded.size() > 5) {
                recorded.remove(0);
            }
        }
        return answer;
    }

    int fold(int kind) {
        State before = state.copy();
        return answered(before, state.fold(kind));
    }

    int unfold() {
        State before = state.copy();
        return answered(before, state.unfold());
    }

    int open() {
        State before = state.copy();
        int folds = 0;
        while (state.unfold() >= 0) {
            folds++;
        }
        return answered(before, folds);
    }

    int size(int part) {
        return switch (part) {
            case 0 -> state.width();
            case 1 -> state.height();
            case 2 -> 64 / (state.width() * state.height());
            case 3 -> state.folds.size();
            default -> BAD_VALUE;
        };
    }

    int foldAt(int index) {
        return index < 0 || index >= state.folds.size() ? NO_SUCH : state.folds.get(index);
    }

    int punch(int column, int row, int depth) {
        State before = state.copy();
        return answered(before, state.punch(column, row, depth));
    }

    int ink(int column, int row, int tint) {
        State before = state.copy();
        return answered(before, state.ink(column, row, tint));
    }

    int mend(int column, int row) {
        List<Layer> stack = state.field(column, row);
        if (stack == null) {
            return NO_SUCH;
        }
        int cell = stack.get(0).cell;
        if (!state.hole[cell]) {
            return NOT_POSSIBLE;
        }
        State before = state.copy();
        state.hole[cell] = false;
        state.colour[cell] = new int[2];
        return answered(before, cell);
    }

    int layer(int column, int row, int index, int part) {
        List<Layer> stack = state.field(column, row);
        if (stack == null || index < 0 || index >= stack.size()) {
            return NO_SUCH;
        }
        Layer layer = stack.get(index);
        return switch (part) {
            case 0 -> layer.cell;
            case 1 -> layer.side;
            case 2 -> state.hole[layer.cell] ? 1 : 0;
            case 3 -> state.colour[layer.cell][layer.side];
            default -> BAD_VALUE;
        };
    }

    int seen(int column, int row) {
        List<Layer> stack = state.field(column, row);
        if (stack == null) {
            return NO_SUCH;
        }
        Layer layer = state.firstWhole(stack);
        return layer == null ? NONE : 10 * layer.cell + state.colour[layer.cell][layer.side];
    }

    int where(int cell, int part) {
        if (cell < 0 || cell > 63) {
            return NO_SUCH;
        }
        if (part < 0 || part > 3) {
            return BAD_VALUE;
        }
        for (int r = 0; r < state.height(); r++) {
            for (int c = 0; c < state.width(); c++) {
                List<Layer> stack = state.field(c, r);
                for (int i = 0; i < stack.size(); i++) {
                    if (stack.get(i).cell == cell) {
                        return new int[] {c, r, i, stack.get(i).side}[part];
                    }
                }
            }
        }
        throw new IllegalStateException("the model has lost a cell");
    }

    int colour(int cell, int side) {
        if (cell < 0 || cell > 63) {
            return NO_SUCH;
        }
        return side < 0 || side > 1 ? BAD_VALUE : state.colour[cell][side];
    }

    private static int mask(boolean[] cells, int row) {
        if (row < 0 || row > 7) {
            return NO_SUCH;
        }
        int mask = 0;
        for (int c = 0; c < 8; c++) {
            mask += cells[8 * row + c] ? (int) Math.pow(2, c) : 0;
        }
        return mask;
    }

    int holes(int row) {
        return mask(state.hole, row);
    }

    private static List<Integer> pieces(boolean[] hole) {
        boolean[] taken = hole.clone();
        List<Integer> sizes = new ArrayList<>();
        for (int first = 0; first < 64; first++) {
            ArrayDeque<Integer> open = new ArrayDeque<>();
            if (!taken[first]) {
                open.add(first);
                taken[first] = true;
            }
            int size = 0;
            while (!open.isEmpty()) {
                int cell = open.remove();
                size++;
                for (int other = 0; other < 64; other++) {
                    int far = Math.abs(cell / 8 - other / 8) + Math.abs(cell % 8 - other % 8);
                    if (far == 1 && !taken[other]) {
                        taken[other] = true;
                        open.add(other);
                    }
                }
            }
            if (size > 0) {
                sizes.add(size);
            }
        }
        return sizes;
    }

    private static int cells(boolean[] set) {
        int number = 0;
        for (boolean in : set) {
            number += in ? 1 : 0;
        }
        return number;
    }

    int count(int what) {
        switch (what) {
            case 0:
                return cells(state.hole);
            case 1:
                return pieces(state.hole).size();
            case 2:
                return pieces(state.hole).stream().mapToInt(size -> size).max().orElse(0);
            case 3:
                return (int) Arrays.stream(state.colour).flatMapToInt(Arrays::stream).filter(c -> c != 0).count();
            case 4:
                return cells(state.target);
            case 5:
                int different = 0;
                for (int cell = 0; cell < 64; cell++) {
                    different += state.hole[cell] != state.target[cell] ? 1 : 0;
                }
                return different;
            default:
                return BAD_VALUE;
        }
    }

    int symmetries() {
        int mask = 0;
        for (int bit = 0; bit < 4; bit++) {
            boolean[] image = new boolean[64];
            for (int cell = 0; cell < 64; cell++) {
                int c = cell % 8;
                int r = cell / 8;
                int to = new int[] {8 * r + 7 - c, 8 * (7 - r) + c, 8 * (7 - r) + 7 - c, 8 * c + r}[bit];
                image[to] = state.hole[cell];
            }
            mask += Arrays.equals(image, state.hole) ? 1 << bit : 0;
        }
        return mask;
    }

    int aim(int row, int mask) {
        if (row < 0 || row > 7) {
            return NO_SUCH;
        }
        if (mask < 0 || mask > 255) {
            return BAD_VALUE;
        }
        State before = state.copy();
        int previous = mask(state.target, row);
        for (int c = 0; c < 8; c++) {
            state.target[8 * row + c] = (mask >> c) % 2 == 1;
        }
        return answered(before, previous);
    }

    int aimHere() {
        State before = state.copy();
        state.target = state.hole.clone();
        return answered(before, cells(state.target));
    }

    int target(int row) {
        return mask(state.target, row);
    }

    private int punchesFor(Set<Set<Integer>> fields) {
        int punches = 0;
        for (Set<Integer> field : fields) {
            long wanted = field.stream().filter(cell -> state.target[cell]).count();
            if (wanted != 0 && wanted != field.size()) {
                return NONE;
            }
            punches += wanted != 0 ? 1 : 0;
        }
        return punches;
    }

    int punches() {
        Set<Set<Integer>> fields = new HashSet<>();
        for (List<List<Layer>> row : state.rows) {
            for (List<Layer> stack : row) {
                Set<Integer> cells = new HashSet<>();
                stack.forEach(layer -> cells.add(layer.cell));
                fields.add(cells);
            }
        }
        return punchesFor(fields);
    }

    int bestFolds() {
        int best = 0;
        int bestRank = Integer.MAX_VALUE;
        for (Way way : WAYS) {
            int punches = punchesFor(way.fields);
            int rank = 10000 * punches + 100 * (way.across + way.down) + way.across;
            if (punches != NONE && rank < bestRank) {
                bestRank = rank;
                best = 10 * way.across + way.down;
            }
        }
        return best;
    }

    int ifPunched(int column, int row) {
        List<Layer> stack = state.field(column, row);
        if (stack == null) {
            return NO_SUCH;
        }
        State other = state.copy();
        other.punch(column, row, stack.size());
        return pieces(other.hole).size();
    }

    int append(int code) {
        if (code < 33 || code > 126) {
            return BAD_VALUE;
        }
        if (buffer.length() == 60) {
            return LIMIT;
        }
        buffer += (char) code;
        return buffer.length();
    }

    int clearText() {
        int length = buffer.length();
        buffer = "";
        return length;
    }

    private static boolean begins(String start) {
        for (String end : ENDS) {
            if (TEXT.matcher(start + end).matches()) {
                return true;
            }
        }
        return false;
    }

    int errorPosition() {
        for (int i = 0; i < buffer.length(); i++) {
            if (!begins(buffer.substring(0, i + 1))) {
                return i;
            }
        }
        return TEXT.matcher(buffer).matches() ? NONE : buffer.length();
    }

    int work() {
        if (!TEXT.matcher(buffer).matches()) {
            return BAD_TEXT;
        }
        State before = state.copy();
        int done = 0;
        int answer = 0;
        String rest = buffer;
        while (!rest.isEmpty() && (answer >= 0 || answer == NONE)) {
            var matcher = FIRST_WORK.matcher(rest);
            matcher.find();
            String work = matcher.group();
            rest = rest.substring(work.length());
            answer = doWork(work);
            done += answer >= 0 || answer == NONE ? 1 : 0;
        }
        buffer = "";
        return answered(before, done);
    }

    private int doWork(String work) {
        char letter = work.charAt(0);
        if (letter == 'U') {
            return state.unfold();
        }
        if (work.length() == 1) {
            return state.fold("LRTB".indexOf(letter));
        }
        int column = work.charAt(1) - '0';
        int row = work.charAt(2) - '0';
        if (letter == 'I') {
            return state.ink(column, row, work.charAt(3) - '0');
        }
        int depth = work.length() > 3 ? Integer.parseInt(work.substring(4)) : state.field(0, 0).size();
        return state.punch(column, row, depth);
    }

    int undo() {
        if (recorded.isEmpty()) {
            return NOT_POSSIBLE;
        }
        state = recorded.remove(recorded.size() - 1);
        return recorded.size();
    }

    int save() {
        saved = state.copy();
        return saved.folds.size();
    }

    int restore() {
        if (saved == null) {
            return NOT_POSSIBLE;
        }
        State before = state;
        state = saved.copy();
        return answered(before, state.folds.size());
    }
}
