import java.util.function.IntSupplier;

/** Compares answers with the due ones, prints the wrong ones, and ends the test with its exit code. */
final class Checks {
    private int made = 0;
    private int wrong = 0;

    void same(String call, long got, long due) {
        made++;
        if (got != due) {
            wrong++;
            System.out.println(call + " answered " + got + ", due is " + due);
        }
    }

    void yes(String what, boolean holds) {
        made++;
        if (!holds) {
            wrong++;
            System.out.println(what + " does not hold");
        }
    }

    void same(String call, String got, String due) {
        made++;
        if (!got.equals(due)) {
            wrong++;
            System.out.println(call + " answered " + got + ", due is " + due);
        }
    }

    /** The call must throw exactly this exception and leave all that can be seen as it was. */
    void refuses(RouteBudget x, String call, Class<? extends RuntimeException> due, IntSupplier run) {
        String before = seen(x);
        same(call, answer(run), "throws." + due.getSimpleName());
        same(call + ", then all that can be seen", seen(x), before);
    }

    void end() {
        System.out.println(made + " checks, " + wrong + " wrong");
        if (wrong != 0 || made == 0) {
            System.exit(1);
        }
    }

    static String answer(IntSupplier run) {
        try {
            return String.valueOf(run.getAsInt());
        } catch (RuntimeException e) {
            return "throws." + e.getClass().getSimpleName();
        }
    }

    /** Appends a text, filled with spaces to whole calls; returns the new length of the buffer. */
    static int append(RouteBudget x, String text) {
        StringBuilder filled = new StringBuilder(text);
        while (filled.length() % 20 != 0) {
            filled.append(' ');
        }
        int length = 0;
        for (int i = 0; i < filled.length(); i += 20) {
            length = x.append(word(filled, i), word(filled, i + 4), word(filled, i + 8), word(filled, i + 12),
                    word(filled, i + 16));
        }
        return length;
    }

    static int load(RouteBudget x, String text) {
        append(x, text);
        return x.load(text.length());
    }

    static RouteBudget loaded(String text) {
        RouteBudget x = new RouteBudget();
        int answer = load(x, text);
        if (answer < 0) {
            throw new IllegalStateException("the test's own text is wrong: " + text);
        }
        return x;
    }

    static String written(RouteBudget x) {
        StringBuilder text = new StringBuilder();
        for (int i = 0; !answer(at(x, i)).startsWith("throws."); i++) {
            text.append((char) x.writtenByte(i));
        }
        return text.toString();
    }

    /** All answers of calls that change nothing. */
    static String seen(RouteBudget x) {
        StringBuilder all = new StringBuilder();
        for (int what = 0; what <= 11; what++) {
            all.append(x.count(what)).append(' ');
        }
        for (int arc = 0; arc < x.count(1); arc++) {
            all.append("arc ");
            for (int what = 0; what <= 3; what++) {
                all.append(x.arc(arc, what)).append(' ');
            }
        }
        for (int route = 0; route < x.count(5); route++) {
            all.append("route ");
            for (int index = 0; index < x.route(route, 0); index++) {
                all.append(x.routeArc(route, index)).append(' ');
            }
            for (int what = 0; what <= 7; what++) {
                all.append(x.route(route, what)).append(' ');
            }
        }
        for (int what = 0; what <= 5; what++) {
            int number = what;
            all.append(answer(() -> x.robust(number))).append(' ');
            all.append(answer(() -> x.calm(number))).append(' ');
        }
        for (int node = 0; node < x.count(0); node++) {
            for (int left = 0; left <= 6; left++) {
                all.append(x.value(node, left)).append(' ').append(x.bestNext(node, left)).append(' ');
            }
        }
        for (int step = 0; step < x.count(11); step++) {
            int number = step;
            all.append(answer(() -> x.grief(number))).append(' ');
        }
        all.append(answer(x::promise)).append(' ').append(answer(x::chosen)).append(' ');
        all.append(x.reason()).append(' ').append(x.errorPosition()).append(' ').append(written(x));
        return all.toString();
    }

    private static IntSupplier at(RouteBudget x, int index) {
        return () -> x.writtenByte(index);
    }

    private static int word(CharSequence text, int from) {
        int word = 0;
        for (int i = from; i < from + 4; i++) {
            word = word << 8 | text.charAt(i) & 255;
        }
        return word;
    }
}
