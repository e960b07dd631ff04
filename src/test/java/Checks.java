import java.util.function.Consumer;
import java.util.function.Supplier;

/** Compares answers with those that are due, and counts the wrong ones. */
final class Checks {
    private int done;
    private int wrong;

    /** What a call answers; an exception counts as throws. and its name. */
    static String answer(Supplier<Object> call) {
        try {
            return String.valueOf(call.get());
        } catch (RuntimeException e) {
            return "throws." + e.getClass().getSimpleName();
        }
    }

    void due(String what, Supplier<Object> call, Object want) {
        equal(what, answer(call), String.valueOf(want));
    }

    void illegalArgument(String what, Supplier<Object> call) {
        due(what, call, "throws.IllegalArgumentException");
    }

    void illegalState(String what, Supplier<Object> call) {
        due(what, call, "throws.IllegalStateException");
    }

    void outOfBounds(String what, Supplier<Object> call) {
        due(what, call, "throws.IndexOutOfBoundsException");
    }

    void equal(String what, String got, String want) {
        done++;
        if (!got.equals(want)) {
            wrong++;
            System.out.println(what + " answered " + got + ", due is " + want);
        }
    }

    /** Whether a call that throws leaves all but fault() and clash() as it is on an object made alike. */
    void changesNothing(String what, Supplier<FigureCaller> setup, Consumer<FigureCaller> call) {
        FigureCaller x = setup.get();
        String thrown = answer(() -> {
            call.accept(x);
            return "nothing";
        });
        equal(what + " throws", String.valueOf(thrown.startsWith("throws.")), "true");
        equal(what + " changes something: it", observe(x), observe(setup.get()));
    }

    void end() {
        System.out.println(done + " checks, " + wrong + " wrong");
        if (wrong != 0) {
            System.exit(1);
        }
    }

    /** Writes a text: whether all of it was taken. */
    static boolean write(FigureCaller x, String text) {
        boolean taken = true;
        for (int i = 0; i < text.length(); i += 8) {
            taken &= x.write(packed(text.substring(i, Math.min(i + 8, text.length()))));
        }
        return taken;
    }

    static long packed(String upToEight) {
        long bytes = 0;
        for (int i = upToEight.length() - 1; i >= 0; i--) {
            bytes = bytes << 8 | upToEight.charAt(i);
        }
        return bytes;
    }

    static int define(FigureCaller x, String text) {
        x.wipe();
        write(x, text);
        return x.define();
    }

    /** A new object with calls. */
    static FigureCaller with(String... texts) {
        FigureCaller x = new FigureCaller();
        for (String text : texts) {
            define(x, text);
        }
        return x;
    }

    /** All dancers' x, y and facings: 430 for one at (4, 3) who faces north. */
    static String floor(FigureCaller x) {
        StringBuilder row = new StringBuilder();
        for (int d = 0; d < 8; d++) {
            row.append(d == 0 ? "" : " ").append(x.where(d, 0)).append(x.where(d, 1)).append(x.where(d, 2));
        }
        return row.toString();
    }

    /** The dancers that a selector has. */
    static String selected(FigureCaller x, int selector) {
        StringBuilder row = new StringBuilder();
        for (int d = 0; d < 8; d++) {
            row.append(x.select(selector, d) ? String.valueOf(d) : "");
        }
        return row.toString();
    }

    /** All that the calls tell of an object but fault() and clash(); it is used up by that. */
    private static String observe(FigureCaller x) {
        StringBuilder all = new StringBuilder();
        for (int i = 0; i < 5; i++) {
            int at = i;
            all.append(answer(() -> x.way(at))).append(' ');
        }
        all.append(x.resolve()).append(' ');
        for (int i = 0; i < 13; i++) {
            int call = i;
            all.append(answer(() -> x.beats(call))).append(' ');
        }
        all.append(answer(() -> x.define())).append(' ').append(x.fault()).append(' ').append(x.wipe());
        boolean more = true;
        while (more) {
            all.append('\n').append(floor(x)).append(" last stood ");
            for (int beat = 0; beat < 17; beat++) {
                int at = beat;
                all.append(answer(() -> x.stood(at, 0))).append(' ');
            }
            String undone = answer(() -> x.undo());
            all.append(undone);
            more = !undone.startsWith("throws.");
        }
        return all.toString();
    }
}
