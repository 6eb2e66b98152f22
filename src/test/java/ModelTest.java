/** Long runs of calls with all kinds of arguments, compared with the model: promises 1 to 29. */
public final class ModelTest {
    private static final int RUNS = 1500;
    // An object is used for at most 512 calls, the ones with which it is compared at the end among them.
    private static final int SHORT_RUN = 96;
    private static final int LONG_RUN = 500;
    private static final int[] WRONG = {-1, -2, 8, 9, 63, 64, 65, 100, 255, 256, Integer.MAX_VALUE, Integer.MIN_VALUE};
    private static final String SIGNS = "LRTBUPI:0123456789";
    private static final String[] WORKS = {"L", "R", "T", "B", "U", "P", "I", "P00", "P11:", "P01:2", "P10:12",
        "P00:64", "P00:6", "P20", "P33:4", "I001", "I125", "I003", "I11", "x", "00", "P00:3P01", "I4"};

    // A fixed row of numbers that look drawn, so that each run of the test is the same.
    private static long drawn = 20261119L;
    private static int calls = 0;

    private ModelTest() {
    }

    private static int draw(int below) {
        drawn = drawn * 6364136223846793005L + 1442695040888963407L;
        return (int) ((drawn >>> 33) % below);
    }

    private static int within(int below) {
        return draw(12) == 0 ? WRONG[draw(WRONG.length)] : draw(below);
    }

    public static void main(String[] args) {
        for (int run = 0; run < RUNS; run++) {
            compareOneRun(run, run % 10 == 9 ? LONG_RUN : SHORT_RUN);
        }
        Due.end();
    }

    private static void compareOneRun(int run, int length) {
        PunchedFolds x = new PunchedFolds();
        Model model = new Model();
        calls = 0;
        while (calls < length) {
            compare(run, x, model, run % 3);
        }
        if (length == SHORT_RUN && run % 2 == 0) {
            compareAll(run, x, model);
        } else if (length == SHORT_RUN) {
            compareRecorded(run, x, model);
        }
    }

    private static void compare(int run, PunchedFolds x, Model m, int manner) {
        int kind = draw(40);
        if (kind < 4) {
            int a = within(4);
            due(run, "fold(" + a + ")", x.fold(a), m.fold(a));
        } else if (kind < 12) {
            change(run, x, m, manner);
        } else if (kind < 22) {
            look(run, x, m);
        } else if (kind < 26) {
            aimAndPredict(run, x, m);
        } else if (kind < 34) {
            write(run, x, m);
        } else {
            step(run, x, m);
        }
    }

    private static void change(int run, PunchedFolds x, Model m, int manner) {
        int c = within(m.size(0));
        int r = within(m.size(1));
        int kind = draw(8);
        if (kind < 3) {
            int d = manner == 0 ? m.size(2) : draw(8) == 0 ? within(66) : 1 + draw(m.size(2));
            due(run, "punch(" + c + ", " + r + ", " + d + ")", x.punch(c, r, d), m.punch(c, r, d));
        } else if (kind < 6) {
            int i = draw(5) == 0 ? within(7) : 1 + draw(5);
            due(run, "ink(" + c + ", " + r + ", " + i + ")", x.ink(c, r, i), m.ink(c, r, i));
        } else {
            due(run, "mend(" + c + ", " + r + ")", x.mend(c, r), m.mend(c, r));
        }
    }

    private static void look(int run, PunchedFolds x, Model m) {
        int c = within(m.size(0));
        int r = within(m.size(1));
        int cell = within(64);
        int part = within(4);
        int i = within(m.size(2));
        switch (draw(9)) {
            case 0, 1 -> due(run, "layer(" + c + ", " + r + ", " + i + ", " + part + ")",
                    x.layer(c, r, i, part), m.layer(c, r, i, part));
            case 2, 3 -> due(run, "seen(" + c + ", " + r + ")", x.seen(c, r), m.seen(c, r));
            case 4 -> due(run, "where(" + cell + ", " + part + ")", x.where(cell, part), m.where(cell, part));
            case 5 -> due(run, "colour(" + cell + ", " + part + ")", x.colour(cell, part), m.colour(cell, part));
            case 6 -> due(run, "holes(" + r + ")", x.holes(r), m.holes(r));
            case 7 -> {
                int what = within(6);
                due(run, "count(" + what + ")", x.count(what), m.count(what));
            }
            default -> due(run, "symmetries()", x.symmetries(), m.symmetries());
        }
    }

    private static void aimAndPredict(int run, PunchedFolds x, Model m) {
        int r = within(8);
        int c = within(m.size(0));
        switch (draw(7)) {
            case 0 -> {
                int mask = within(256);
                due(run, "aim(" + r + ", " + mask + ")", x.aim(r, mask), m.aim(r, mask));
            }
            case 1 -> due(run, "aimHere()", x.aimHere(), m.aimHere());
            case 2 -> due(run, "target(" + r + ")", x.target(r), m.target(r));
            case 3, 4 -> {
                due(run, "punches()", x.punches(), m.punches());
                due(run, "bestFolds()", x.bestFolds(), m.bestFolds());
            }
            default -> due(run, "ifPunched(" + c + ", " + r + ")", x.ifPunched(c, r), m.ifPunched(c, r));
        }
    }

    private static void write(int run, PunchedFolds x, Model m) {
        int kind = draw(10);
        if (kind < 5) {
            String signs = WORKS[draw(WORKS.length)];
            for (int i = 0; i < signs.length(); i++) {
                due(run, "append", x.append(signs.charAt(i)), m.append(signs.charAt(i)));
            }
        } else if (kind == 5) {
            int code = draw(2) == 0 ? within(130) : SIGNS.charAt(draw(SIGNS.length()));
            due(run, "append(" + code + ")", x.append(code), m.append(code));
        } else if (kind == 6) {
            due(run, "clearText()", x.clearText(), m.clearText());
        } else if (kind == 7) {
            due(run, "errorPosition()", x.errorPosition(), m.errorPosition());
        } else {
            due(run, "work()", x.work(), m.work());
        }
    }

    private static void step(int run, PunchedFolds x, Model m) {
        int i = within(6);
        switch (draw(10)) {
            case 0, 1 -> due(run, "unfold()", x.unfold(), m.unfold());
            case 2 -> due(run, "open()", x.open(), m.open());
            case 3 -> due(run, "size(" + i + ")", x.size(i), m.size(i));
            case 4 -> due(run, "foldAt(" + i + ")", x.foldAt(i), m.foldAt(i));
            case 5, 6 -> due(run, "undo()", x.undo(), m.undo());
            case 7 -> due(run, "save()", x.save(), m.save());
            default -> due(run, "restore()", x.restore(), m.restore());
        }
    }

    private static void compareRows(int run, PunchedFolds x, Model m) {
        for (int i = 0; i < 8; i++) {
            due(run, "holes at the end", x.holes(i), m.holes(i));
            due(run, "target at the end", x.target(i), m.target(i));
            due(run, "foldAt at the end", x.foldAt(i), m.foldAt(i));
        }
    }

    private static void compareRecorded(int run, PunchedFolds x, Model m) {
        int remaining = 5;
        while (remaining >= 0) {
            remaining = m.undo();
            due(run, "undo() at the end", x.undo(), remaining);
            due(run, "count(3) at the end", x.count(3), m.count(3));
            compareRows(run, x, m);
        }
    }

    private static void compareAll(int run, PunchedFolds x, Model m) {
        compareRows(run, x, m);
        for (int cell = 0; cell < 64; cell++) {
            for (int part = 0; part < 4; part++) {
                due(run, "where at the end", x.where(cell, part), m.where(cell, part));
            }
            due(run, "colour at the end", x.colour(cell, 0), m.colour(cell, 0));
            due(run, "colour at the end", x.colour(cell, 1), m.colour(cell, 1));
        }
    }

    private static void due(int run, String call, int got, int want) {
        calls++;
        Due.is("run " + run + ": " + call, got, want);
    }
}
