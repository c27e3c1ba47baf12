import java.util.ArrayList;
import java.util.List;
import java.util.Map;

/** What THE LAW comes to, by taking its text apart at the signs that bind least, each time anew. */
final class LawModel {
    private LawModel() {
    }

    /** What is divided by 0. */
    private static final class Refused extends Exception {
        private static final long serialVersionUID = 1;
    }

    static boolean givesUp(String law, Map<Character, Integer> letters) {
        for (String rule : law.split(";")) {
            if (rule.startsWith("x") && holds(rule, letters)) {
                return true;
            }
        }
        return false;
    }

    static int worth(String law, char kind, Map<Character, Integer> letters, int most) {
        for (String rule : law.split(";")) {
            if (!rule.isEmpty() && rule.charAt(0) == kind && holds(rule, letters)) {
                try {
                    int worth = value(rule.substring(1, rule.indexOf('(')), letters);
                    return Math.max(0, Math.min(most, worth));
                } catch (Refused refused) {
                    return 0;
                }
            }
        }
        return 0;
    }

    private static boolean holds(String rule, Map<Character, Integer> letters) {
        try {
            return isSo(rule.substring(rule.indexOf('(') + 1, rule.length() - 1), letters);
        } catch (Refused refused) {
            return false;
        }
    }

    private static boolean isSo(String condition, Map<Character, Integer> letters) throws Refused {
        List<String> parts = split(condition, "|");
        if (parts.size() > 1) {
            for (String part : parts) {
                if (isSo(part, letters)) {
                    return true;
                }
            }
            return false;
        }
        List<String> tests = split(condition, "&");
        if (tests.size() > 1) {
            for (String test : tests) {
                if (!isSo(test, letters)) {
                    return false;
                }
            }
            return true;
        }
        if (condition.startsWith("!")) {
            return !isSo(condition.substring(1), letters);
        }
        if (condition.startsWith("(")) {
            return isSo(condition.substring(1, condition.length() - 1), letters);
        }
        int sign = lastOf(condition, "<>=");
        int left = value(condition.substring(0, sign), letters);
        int right = value(condition.substring(sign + 1), letters);
        char how = condition.charAt(sign);
        return how == '<' ? left < right : how == '>' ? left > right : left == right;
    }

    private static int value(String text, Map<Character, Integer> letters) throws Refused {
        int sign = lastOf(text, "+-");
        sign = sign < 0 ? lastOf(text, "*/%") : sign;
        if (sign < 0) {
            char first = text.charAt(0);
            if (first == '[') {
                return value(text.substring(1, text.length() - 1), letters);
            }
            return letters.containsKey(first) ? letters.get(first) : Integer.parseInt(text);
        }
        int left = value(text.substring(0, sign), letters);
        int right = value(text.substring(sign + 1), letters);
        char how = text.charAt(sign);
        if ((how == '/' || how == '%') && right == 0) {
            throw new Refused();
        }
        long whole = how == '+' ? (long) left + right : how == '-' ? (long) left - right
            : how == '*' ? (long) left * right : how == '/' ? (long) left / right : (long) left % right;
        return (int) whole;
    }

    /** The last place of one of the signs outside all brackets, -1 if there is none. */
    private static int lastOf(String text, String signs) {
        int open = 0;
        for (int i = text.length() - 1; i >= 0; i--) {
            char sign = text.charAt(i);
            open += sign == ')' || sign == ']' ? 1 : sign == '(' || sign == '[' ? -1 : 0;
            if (open == 0 && signs.indexOf(sign) >= 0) {
                return i;
            }
        }
        return -1;
    }

    private static List<String> split(String text, String sign) {
        List<String> parts = new ArrayList<>();
        String rest = text;
        for (int at = lastOf(rest, sign); at >= 0; at = lastOf(rest, sign)) {
            parts.add(0, rest.substring(at + 1));
            rest = rest.substring(0, at);
        }
        parts.add(0, rest);
        return parts;
    }
}
