import java.util.ArrayList;
import java.util.List;
import java.util.Random;

/** Texts for load, most of them right, some with a fault somewhere. */
final class RandomText {
    private final Random random;
    private final StringBuilder text = new StringBuilder();
    private final List<int[]> arcs = new ArrayList<>();

    private RandomText(Random random) {
        this.random = random;
    }

    static String draw(Random random) {
        RandomText drawn = new RandomText(random);
        drawn.write();
        String text = drawn.text.toString();
        if (text.length() > 600) {
            text = text.substring(0, 600);
        }
        return random.nextInt(3) == 0 ? spoil(random, text) : text;
    }

    /** Puts a wrong sign somewhere, takes one away, or ends too early. */
    private static String spoil(Random random, String text) {
        int at = random.nextInt(text.length());
        char sign = " ;09aetz/:`{A\t\u00ff\u0080\u00000123456789".charAt(random.nextInt(25));
        return switch (random.nextInt(4)) {
            case 0 -> text.substring(0, at) + sign + text.substring(at + 1);
            case 1 -> text.substring(0, at) + sign + text.substring(at);
            case 2 -> text.substring(0, at) + text.substring(at + 1);
            default -> text.substring(0, at);
        };
    }

    private void word(String word) {
        gap(false);
        text.append(word);
    }

    private void number(int number) {
        boolean isBehindDigit = text.length() > 0 && Character.isDigit(text.charAt(text.length() - 1));
        gap(isBehindDigit);
        if (random.nextInt(60) == 0) {
            text.append(random.nextBoolean() ? "000" : "4294967296");
        }
        text.append(number);
    }

    private void gap(boolean isNeeded) {
        if (isNeeded || random.nextInt(12) == 0) {
            text.append(random.nextInt(20) == 0 ? "   " : " ");
        }
    }

    private int about(int low, int high) {
        int kind = random.nextInt(150);
        return kind == 0 ? high + 1 : kind == 1 ? Math.max(0, low - 1) : low + random.nextInt(high - low + 1);
    }

    private void write() {
        int toldNodes = about(2, 8);
        int nodes = Math.max(2, toldNodes);
        int source = about(0, nodes - 1);
        int target = (source + 1 + random.nextInt(nodes - 1)) % nodes;
        if (random.nextInt(60) == 0) {
            target = source;
        }
        word("net");
        number(toldNodes);
        number(source);
        number(target);
        word(";");
        int statements = random.nextInt(3) == 0 ? random.nextInt(30) : 8 + random.nextInt(14);
        boolean isLayered = random.nextBoolean();
        for (int i = 0; i < statements; i++) {
            int kind = random.nextInt(20);
            if (kind == 0) {
                word("budget");
                number(about(0, 6));
                word(";");
            } else if (kind < (i < 8 ? 19 : 13)) {
                arc(nodes, isLayered);
            } else {
                route(source, target);
            }
        }
        gap(false);
    }

    private void arc(int nodes, boolean isLayered) {
        int tail = isLayered ? random.nextInt(nodes - 1) : about(0, nodes - 1);
        int head = isLayered ? Math.min(nodes - 1, tail + 1 + random.nextInt(2))
                : (tail + 1 + random.nextInt(nodes - 1)) % nodes;
        if (random.nextInt(100) == 0) {
            head = tail;
        }
        int most = random.nextInt(4) == 0 ? 99 : 9;
        int cost = random.nextInt(4) == 0 ? 0 : about(0, most);
        int extra = random.nextInt(4) == 0 ? 0 : about(0, most);
        word("arc");
        number(tail);
        number(head);
        number(cost);
        number(extra);
        word(";");
        arcs.add(new int[] {tail, head});
    }

    /** Follows arcs by chance from the source; often it gets to the target. */
    private void route(int source, int target) {
        List<Integer> route = new ArrayList<>();
        List<Integer> nodes = new ArrayList<>();
        nodes.add(source);
        int end = source;
        for (int tries = 0; tries < 60 && (end != target || random.nextInt(100) == 0) && !arcs.isEmpty(); tries++) {
            int arc = random.nextInt(arcs.size());
            boolean isFaulty = random.nextInt(1000) == 0;
            if (isFaulty || arcs.get(arc)[0] == end && !nodes.contains(arcs.get(arc)[1])) {
                route.add(arc);
                end = arcs.get(arc)[1];
                nodes.add(end);
            }
        }
        if (end != target && random.nextInt(8) != 0) {
            return;
        }
        word("route");
        for (int arc : route) {
            number(arc);
        }
        word(";");
    }
}
