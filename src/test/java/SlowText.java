import java.util.ArrayList;
import java.util.List;
import java.util.Map;

/** A boat's text read by patterns: which fault it has, and where. */
final class SlowText {
    private static final String OWN = " seat arm rower strength tires each fix left right want is near run power swung pay on ";
    private static final Map<String, String> PATTERNS = Map.of(
            "seat", "place arm 1..99", "rower", "name strength 1..99 tires 0..9", "each", "0..12",
            "fix", "known side", "want", "0..3 is -9999", "near", "0..9999",
            "run", "sides power 0..3 swung -99999", "pay", "1..999 on 0..999");
    private static final Map<String, Integer> MOST = Map.of("seat", 12, "rower", 12, "run", 8, "pay", 12);

    private record Token(int start, String text, boolean glued) {
        boolean isWord() {
            return !text.isEmpty() && Character.isLowerCase(text.charAt(0)) && text.charAt(0) < 128;
        }

        boolean isNumber() {
            return !text.isEmpty() && text.charAt(0) >= '0' && text.charAt(0) <= '9';
        }
    }

    private final List<Token> tokens = new ArrayList<>();
    private int next = 0;
    int kind = 0;
    int place = -1;
    int statements = 0;
    private final List<Integer> places = new ArrayList<>();
    private final List<String> names = new ArrayList<>();

    SlowText(String text) {
        cut(text);
        java.util.HashMap<String, Integer> told = new java.util.HashMap<>();
        while (kind == 0 && !peek().text.isEmpty()) {
            Token head = peek();
            String pattern = head.isWord() ? PATTERNS.get(head.text) : null;
            if (statements == 70 || (pattern != null && told.getOrDefault(head.text, 0) >= MOST.getOrDefault(head.text, 99))) {
                fail(5, head.start);
            } else if (pattern == null) {
                fail(1, head.start);
            } else {
                next++;
                told.merge(head.text, 1, Integer::sum);
                for (String part : (pattern + " ;").split(" ")) {
                    if (kind == 0) {
                        part(part);
                    }
                }
                statements++;
            }
        }
    }

    private void cut(String text) {
        int at = 0;
        boolean solid = false;
        while (at < text.length()) {
            char c = text.charAt(at);
            if (c == ' ' || c == '\n') {
                solid = false;
                at++;
                continue;
            }
            int end = at + 1;
            boolean word = c >= 'a' && c <= 'z';
            boolean number = c >= '0' && c <= '9';
            while (end < text.length() && (word && text.charAt(end) >= 'a' && text.charAt(end) <= 'z'
                    || number && text.charAt(end) >= '0' && text.charAt(end) <= '9')) {
                end++;
            }
            tokens.add(new Token(at, text.substring(at, end), solid && (word || number)));
            solid = word || number;
            at = end;
        }
        tokens.add(new Token(text.length(), "", false));
    }

    private Token peek() {
        return tokens.get(next);
    }

    private void fail(int kind, int place) {
        this.kind = kind;
        this.place = place;
    }

    private void part(String part) {
        Token token = peek();
        if (part.contains("..") || part.equals("place") || part.equals("known")) {
            int value = number();
            if (kind != 0) {
                return;
            }
            boolean holds;
            if (part.equals("place")) {
                holds = value >= 1 && value <= 99 && !places.contains(value);
                places.add(value);
            } else if (part.equals("known")) {
                holds = places.contains(value);
            } else {
                String[] ends = part.split("\\.\\.");
                holds = value >= Integer.parseInt(ends[0]) && value <= Integer.parseInt(ends[1]);
            }
            if (!holds) {
                fail(2, token.start);
            }
        } else if (part.startsWith("-")) {
            if (token.text.equals("-")) {
                next++;
            }
            if (number() > Integer.parseInt(part.substring(1)) && kind == 0) {
                fail(2, token.start);
            }
        } else {
            next++;
            if (token.text.isEmpty() || token.glued || !allows(part, token)) {
                fail(1, token.start);
            } else if (part.equals("name") && token.text.length() > 6) {
                fail(1, token.start + 6);
            } else if (part.equals("name")) {
                if (names.contains(token.text)) {
                    fail(3, token.start);
                }
                names.add(token.text);
            }
        }
    }

    private boolean allows(String part, Token token) {
        switch (part) {
            case "name": return token.isWord() && !OWN.contains(" " + token.text + " ");
            case "side": return token.text.equals("left") || token.text.equals("right");
            case "sides": return token.text.matches("[lrx]{" + Math.max(1, places.size()) + "}") && !places.isEmpty();
            default: return token.text.equals(part);
        }
    }

    private int number() {
        Token token = peek();
        next++;
        if (!token.isNumber() || token.glued) {
            fail(1, token.start);
            return 0;
        }
        if (token.text.length() > 5) {
            fail(1, token.start + 5);
            return 0;
        }
        return Integer.parseInt(token.text);
    }
}
