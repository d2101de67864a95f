/**
 * A new object and the calls on it, each told as a text: draft(3), step(0, true). What an object answers
 * behind its 512th call is free, so a test that makes more calls is itself wrong.
 */
final class Player {
    static final int MOST_CALLS = 512;
    private final RouteBudget x = new RouteBudget();
    private int calls = 0;

    int calls() {
        return calls;
    }

    /** Returns the answer, or the exception's name behind throws. */
    String call(String call) {
        calls++;
        if (calls > MOST_CALLS) {
            throw new Error("the test makes more than 512 calls on one object: " + call);
        }
        int open = call.indexOf('(');
        String listed = call.substring(open + 1, call.length() - 1);
        String[] words = listed.isEmpty() ? new String[0] : listed.split(", ");
        try {
            return answer(call.substring(0, open), words, numbers(words));
        } catch (RuntimeException e) {
            return "throws." + e.getClass().getSimpleName();
        }
    }

    /** The arguments as numbers; true is 1, false is 0. */
    private static int[] numbers(String[] words) {
        int[] numbers = new int[5];
        for (int i = 0; i < words.length; i++) {
            boolean isTruth = words[i].equals("true") || words[i].equals("false");
            numbers[i] = isTruth ? words[i].equals("true") ? 1 : 0 : Integer.parseInt(words[i]);
        }
        return numbers;
    }

    private String answer(String name, String[] words, int[] n) {
        switch (name + "/" + words.length) {
            case "beats/2":
                return String.valueOf(x.beats(n[0], n[1]));
            case "strain/1":
                return String.valueOf(x.strain(n[0]));
            default:
                return String.valueOf(number(name + "/" + words.length, n));
        }
    }

    private int number(String method, int[] n) {
        return switch (method) {
            case "append/5" -> x.append(n[0], n[1], n[2], n[3], n[4]);
            case "load/1" -> x.load(n[0]);
            case "errorPosition/0" -> x.errorPosition();
            case "count/1" -> x.count(n[0]);
            case "arc/2" -> x.arc(n[0], n[1]);
            case "addArc/4" -> x.addArc(n[0], n[1], n[2], n[3]);
            case "removeArc/1" -> x.removeArc(n[0]);
            case "setArc/3" -> x.setArc(n[0], n[1], n[2]);
            case "setBudget/1" -> x.setBudget(n[0]);
            case "draft/1" -> x.draft(n[0]);
            case "drop/0" -> x.drop();
            case "reason/0" -> x.reason();
            case "tell/0" -> x.tell();
            case "forget/1" -> x.forget(n[0]);
            case "routeArc/2" -> x.routeArc(n[0], n[1]);
            case "route/2" -> x.route(n[0], n[1]);
            case "cost/2" -> x.cost(n[0], n[1]);
            case "chosen/0" -> x.chosen();
            case "shortest/1" -> x.shortest(n[0]);
            case "robust/1" -> x.robust(n[0]);
            case "calm/1" -> x.calm(n[0]);
            case "bestArc/2" -> x.bestArc(n[0] == 1, n[1]);
            case "within/1" -> x.within(n[0]);
            case "value/2" -> x.value(n[0], n[1]);
            case "bestNext/2" -> x.bestNext(n[0], n[1]);
            case "step/2" -> x.step(n[0], n[1] == 1);
            case "restart/0" -> x.restart();
            case "promise/0" -> x.promise();
            case "grief/1" -> x.grief(n[0]);
            case "writeRoute/1" -> x.writeRoute(n[0]);
            case "writtenByte/1" -> x.writtenByte(n[0]);
            case "undo/0" -> x.undo();
            default -> throw new Error("the test calls what is not there: " + method);
        };
    }
}
