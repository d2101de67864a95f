import java.util.List;

/**
 * All that a caller can learn of an object that has had some calls. Every part is asked of a fresh object
 * that has had the same calls, so that no part disturbs another one and none needs more than 512 calls.
 */
final class View {
    private static final String SPACES = "append(538976288, 538976288, 538976288, 538976288, 538976288)";
    private final List<String> calls;

    private View(List<String> calls) {
        this.calls = calls;
    }

    /** The whole view. */
    static String of(List<String> calls) {
        View view = new View(calls);
        return view.state() + view.text() + view.changes();
    }

    /** The view without the text buffer, the position of the error and the written text. */
    static String ofState(List<String> calls) {
        View view = new View(calls);
        return view.state() + view.changes();
    }

    private String state() {
        return numbers() + best() + game() + draft();
    }

    private Player played() {
        Player player = new Player();
        calls.forEach(player::call);
        return player;
    }

    private static int number(Player player, String call) {
        return Integer.parseInt(player.call(call));
    }

    private static void ask(StringBuilder all, Player player, String call) {
        all.append(call).append('=').append(player.call(call)).append('\n');
    }

    private static void askEach(StringBuilder all, Player player, String call, int least, int most) {
        for (int i = least; i <= most; i++) {
            ask(all, player, call.replace("#", String.valueOf(i)));
        }
    }

    private String numbers() {
        Player player = played();
        StringBuilder all = new StringBuilder();
        askEach(all, player, "count(#)", 0, 11);
        for (int arc = 0; arc < number(player, "count(1)"); arc++) {
            askEach(all, player, "arc(" + arc + ", #)", 0, 3);
        }
        for (int route = 0; route < number(player, "count(5)"); route++) {
            askEach(all, player, "route(" + route + ", #)", 0, 7);
            askEach(all, player, "routeArc(" + route + ", #)", 0, 7);
            ask(all, player, "strain(" + route + ")");
        }
        askEach(all, player, "grief(#)", 0, 20);
        ask(all, player, "promise()");
        ask(all, player, "chosen()");
        ask(all, player, "reason()");
        return all.toString();
    }

    private String best() {
        Player player = played();
        StringBuilder all = new StringBuilder();
        askEach(all, player, "robust(#)", 0, 5);
        askEach(all, player, "calm(#)", 0, 5);
        askEach(all, player, "bestArc(false, #)", 0, 7);
        askEach(all, player, "bestArc(true, #)", 0, 7);
        askEach(all, player, "within(#)", 0, 30);
        ask(all, player, "shortest(0)");
        ask(all, player, "shortest(-1)");
        return all.toString();
    }

    private String game() {
        Player player = played();
        StringBuilder all = new StringBuilder();
        for (int node = 0; node < number(player, "count(0)"); node++) {
            askEach(all, player, "value(" + node + ", #)", 0, 6);
            askEach(all, player, "bestNext(" + node + ", #)", 0, 6);
        }
        return all.toString();
    }

    /** Without told routes, just the arcs of the draft cannot be removed. */
    private String draft() {
        Player player = played();
        StringBuilder all = new StringBuilder("draft:\n");
        for (int told = number(player, "count(5)"); told > 0; told--) {
            player.call("forget(0)");
        }
        for (int arc = number(player, "count(1)") - 1; arc >= 0; arc--) {
            ask(all, player, "removeArc(" + arc + ")");
        }
        return all.toString();
    }

    private String text() {
        Player player = played();
        StringBuilder all = new StringBuilder("text:\n");
        ask(all, player, "errorPosition()");
        askEach(all, player, "writtenByte(#)", 0, 15);
        player.call(SPACES);
        int length = 620;
        while (length > 0 && player.call("load(" + length + ")").startsWith("throws.")) {
            length -= 20;
        }
        all.append("length of the buffer with spaces ").append(length).append('\n');
        ask(all, player, "errorPosition()");
        askEach(all, player, "count(#)", 0, 11);
        for (int arc = 0; arc < number(player, "count(1)"); arc++) {
            askEach(all, player, "arc(" + arc + ", #)", 0, 3);
        }
        return all.toString();
    }

    /** What every further undo brings back. */
    private String changes() {
        Player player = played();
        StringBuilder all = new StringBuilder("changes:\n");
        boolean isUndone = true;
        for (int n = 0; n < 9 && isUndone; n++) {
            String answer = player.call("undo()");
            all.append("undo()=").append(answer).append('\n');
            isUndone = !answer.startsWith("throws.");
            askEach(all, player, "count(#)", 0, 11);
            ask(all, player, "reason()");
            askEach(all, player, "routeArc(#, 0)", 0, 5);
            ask(all, player, "shortest(-1)");
        }
        return all.toString();
    }
}
