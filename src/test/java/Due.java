import java.util.function.Supplier;
import java.util.function.ToIntFunction;

/** Compares answers with the ones that are due, and ends a test. */
final class Due {
    private static int wrong = 0;

    private Due() {
    }

    static int wrong() {
        return wrong;
    }

    static void is(String call, long got, long want) {
        if (got != want) {
            wrong++;
            System.out.println(call + " answered " + got + ", due is " + want);
        }
    }

    static void isTrue(String what, boolean holds) {
        if (!holds) {
            wrong++;
            System.out.println("not so: " + what);
        }
    }

    /** A call that answers an error code and changes nothing, whatever the object holds. */
    static void refused(String call, Supplier<PunchedFolds> made, ToIntFunction<PunchedFolds> calls, int code) {
        String before = everything(made);
        String after = everything(() -> {
            PunchedFolds x = made.get();
            is(call, calls.applyAsInt(x), code);
            return x;
        });
        isTrue(call + " changes nothing", before.equals(after));
    }

    /** A call that answers as due, and records the state that was current ahead of it. */
    static void recorded(String call, Supplier<PunchedFolds> made, ToIntFunction<PunchedFolds> calls, int due) {
        PunchedFolds x = made.get();
        String before = told(x);
        int states = Math.min(4, statesOf(made.get()));
        is(call, calls.applyAsInt(x), due);
        is(call + ", then undo()", x.undo(), states);
        isTrue(call + " records the state ahead of it", before.equals(told(x)));
    }

    /** A call that answers as due and changes nothing, not even what is recorded. */
    static void onlyLooks(String call, Supplier<PunchedFolds> made, ToIntFunction<PunchedFolds> calls, int due) {
        refused(call, made, calls, due);
    }

    static int statesOf(PunchedFolds x) {
        int states = 0;
        while (states < 100 && x.undo() >= 0) {
            states++;
        }
        return states;
    }

    /** Appends a text to the buffer of x. */
    static void write(PunchedFolds x, String text) {
        for (int i = 0; i < text.length(); i++) {
            x.append(text.charAt(i));
        }
    }

    /** All that objects hold that are made alike; several of them, as an object has but 512 calls. */
    private static String everything(Supplier<PunchedFolds> made) {
        PunchedFolds x = made.get();
        StringBuilder all = new StringBuilder(told(x));
        all.append(" saved ").append(x.restore()).append(' ').append(told(x));
        PunchedFolds y = made.get();
        all.append(" text ").append(y.errorPosition()).append(' ').append(y.work()).append(' ').append(told(y));
        all.append(" length ").append(made.get().clearText());
        PunchedFolds z = made.get();
        for (int states = z.undo(); states >= 0; states = z.undo()) {
            all.append(" state ").append(states).append(' ').append(toldShortly(z));
        }
        return all.toString();
    }

    private static String toldShortly(PunchedFolds x) {
        StringBuilder all = new StringBuilder();
        for (int i = 0; i < 6; i++) {
            all.append(x.foldAt(i)).append(' ');
        }
        for (int i = 0; i < 8; i++) {
            all.append(x.holes(i)).append(' ').append(x.target(i)).append(' ');
        }
        return all.append(x.count(3)).toString();
    }

    /** A number for each part of the state, so that two states can be compared; few calls, as an object has but 512. */
    static String told(PunchedFolds x) {
        StringBuilder all = new StringBuilder();
        for (int part = 0; part < 4; part++) {
            all.append(x.size(part)).append(' ');
        }
        for (int i = 0; i < 7; i++) {
            all.append(x.foldAt(i)).append(' ');
        }
        for (int i = 0; i < 8; i++) {
            all.append(x.holes(i)).append(' ').append(x.target(i)).append(' ');
        }
        all.append(x.count(3));
        for (int cell = 0; cell < 64; cell += 9) {
            all.append('/').append(x.colour(cell, 0)).append(x.colour(cell, 1));
            for (int part = 0; part < 4; part++) {
                all.append(' ').append(x.where(cell, part));
            }
        }
        return all.toString();
    }

    /** A paper with folds, holes, ink and a target, and four recorded states. */
    static PunchedFolds usedPaper() {
        PunchedFolds x = new PunchedFolds();
        x.fold(1);
        x.punch(0, 0, 2);
        x.ink(1, 1, 4);
        x.aim(5, 129);
        return x;
    }

    static void end() {
        System.out.println(wrong == 0 ? "all answers are as due" : wrong + " answers are not as due");
        if (wrong != 0) {
            System.exit(1);
        }
    }
}
