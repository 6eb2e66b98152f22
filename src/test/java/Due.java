/** Compares answers with the ones that are due, and ends a test. */
final class Due {
    private static int wrong = 0;

    private Due() {
    }

    static void is(String call, long got, long want) {
        if (got != want) {
            wrong++;
            System.out.println(call + " answered " + got + ", due is " + want);
        }
    }

    static void isTrue(String what, boolean holds) {
        if (!holds) {
            wrong++;
            System.out.println("not so: " + what);
        }
    }

    /** Appends a text to the buffer of x. */
    static void write(PunchedFolds x, String text) {
        for (int i = 0; i < text.length(); i++) {
            x.append(text.charAt(i));
        }
    }

    /** A number for each part of the state, so that two states can be compared; few calls, as an object has but 512. */
    static String told(PunchedFolds x) {
        StringBuilder all = new StringBuilder();
        for (int part = 0; part < 4; part++) {
            all.append(x.size(part)).append(' ');
        }
        for (int i = 0; i < 7; i++) {
            all.append(x.foldAt(i)).append(' ');
        }
        for (int i = 0; i < 8; i++) {
            all.append(x.holes(i)).append(' ').append(x.target(i)).append(' ');
        }
        all.append(x.count(3));
        for (int cell = 0; cell < 64; cell += 9) {
            all.append('/').append(x.colour(cell, 0)).append(x.colour(cell, 1));
            for (int part = 0; part < 4; part++) {
                all.append(' ').append(x.where(cell, part));
            }
        }
        return all.toString();
    }

    /** A paper with folds, holes, ink and a target, and four recorded states. */
    static PunchedFolds usedPaper() {
        PunchedFolds x = new PunchedFolds();
        x.fold(1);
        x.punch(0, 0, 2);
        x.ink(1, 1, 4);
        x.aim(5, 129);
        return x;
    }

    static void end() {
        System.out.println(wrong == 0 ? "all answers are as due" : wrong + " answers are not as due");
        if (wrong != 0) {
            System.exit(1);
        }
    }
}
