import java.util.ArrayList;
import java.util.List;

/** Texts as calls of append. */
final class Texts {
    private Texts() {
    }

    /** The calls that append a text, filled with spaces to whole calls. */
    static List<String> appends(String text) {
        List<String> calls = new ArrayList<>();
        for (int from = 0; from < text.length(); from += 20) {
            StringBuilder call = new StringBuilder("append(");
            for (int at = from; at < from + 20; at += 4) {
                call.append(at == from ? "" : ", ").append(fourBytes(text, at));
            }
            calls.add(call.append(')').toString());
        }
        return calls;
    }

    private static int fourBytes(String text, int from) {
        int four = 0;
        for (int i = from; i < from + 4; i++) {
            four = four << 8 | (i < text.length() ? text.charAt(i) & 255 : ' ');
        }
        return four;
    }
}
