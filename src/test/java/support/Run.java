import java.util.ArrayList;
import java.util.List;

/** A run of calls on a new object, with the answers that are due. */
final class Run {
    static final String OUT = "IndexOutOfBoundsException";
    static final String ARGUMENT = "IllegalArgumentException";
    static final String STATE = "IllegalStateException";
    static final String NO_ELEMENT = "NoSuchElementException";
    private final Checks checks;
    private final String name;
    private final List<String> calls = new ArrayList<>();
    private final Player player = new Player();

    /** The name tells the promise and the sentence that the run is about. */
    Run(Checks checks, String name) {
        this.checks = checks;
        this.name = name;
    }

    private String play(String call) {
        calls.add(call);
        return player.call(call);
    }

    private void compare(String call, String got, String due) {
        checks.same(name + ", call " + calls.size() + ": " + call, got, due);
    }

    Run due(String call, Object due) {
        compare(call, play(call), String.valueOf(due));
        return this;
    }

    /** The answers to the call with 0, 1, 2, .. in place of the sign #. */
    Run each(String call, Object... due) {
        for (int i = 0; i < due.length; i++) {
            due(call.replace("#", String.valueOf(i)), due[i]);
        }
        return this;
    }

    /** Calls that must not throw; their answers do not matter here. */
    Run make(String... made) {
        for (String call : made) {
            checks.yes(name + ": " + call + " succeeds", !play(call).startsWith("throws."));
        }
        return this;
    }

    /** Appends a text, filled with spaces to whole calls. */
    Run append(String text) {
        Texts.appends(text).forEach(this::make);
        return this;
    }

    /** Appends a text and loads it; the answer is the number of arcs or an error code. */
    Run load(String text, int due) {
        return append(text).due("load(" + text.length() + ")", due);
    }

    /** The call throws just this exception, and nothing that a caller can learn is other than before. */
    Run refuses(String call, String due) {
        String before = View.of(calls);
        compare(call, play(call), "throws." + due);
        compare("what is seen after " + call, View.of(calls), before);
        return this;
    }

    /** The call answers something, and nothing that a caller can learn is other than before. */
    Run changesNothing(String call, Object due) {
        String before = View.of(calls);
        due(call, due);
        compare("what is seen after " + call, View.of(calls), before);
        return this;
    }

    /**
     * The calls succeed, each is one change, and undoing them brings back everything but the texts. The run has
     * had so few changes that the new ones push none out.
     */
    Run undoes(String... changes) {
        String before = View.ofState(calls);
        make(changes);
        for (int i = 0; i < changes.length; i++) {
            make("undo()");
        }
        compare("what is seen after undo of " + String.join(", ", changes), View.ofState(calls), before);
        return this;
    }

    /** The text that was written last, byte by byte, and no byte more. */
    Run written(String due) {
        for (int i = 0; i < due.length(); i++) {
            due("writtenByte(" + i + ")", (int) due.charAt(i));
        }
        return due("writtenByte(" + due.length() + ")", "throws." + OUT);
    }

    /** What is seen now, but for the texts, to be compared with what another run sees. */
    String stateSeen() {
        return View.ofState(calls);
    }
}
