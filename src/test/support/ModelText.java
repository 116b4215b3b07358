import java.util.ArrayList;
import java.util.List;
import java.util.Map;

/** A TEXT as the document's grammar reads it: all tokens first, then a walk down the grammar. */
final class ModelText {
    /** A rule: what it gives for the values of a head. */
    interface Expr {
        int of(Map<String, Integer> values);
    }

    /** The first fault ends the reading. */
    static final class Fault extends RuntimeException {
        private static final long serialVersionUID = 1;
        final int number;
        final int place;

        Fault(int number, int place) {
            this.number = number;
            this.place = place;
        }
    }

    private record Token(char kind, String text, int place) {
    }

    private static final char END = 'E';
    private static final char WORD = 'W';
    private static final char NUMBER = 'N';
    private static final char NOTHING = '?';
    private static final List<String> MELTS_VALUES = List.of("sugar", "almond", "heat", "lean", "day");
    private static final List<String> LEANS_VALUES =
            List.of("sugar", "almond", "heat", "lean", "day", "left", "right");

    final List<int[]> heads = new ArrayList<>();
    final List<Integer> heat = new ArrayList<>();
    Expr melts = null;
    Expr leans = null;

    private final List<Token> tokens = new ArrayList<>();
    private int at = 0;
    private List<String> values = MELTS_VALUES;

    ModelText(String text) {
        cut(text);
        while (here().kind != END) {
            line();
        }
    }

    // ---- tokens

    private void cut(String text) {
        int k = 0;
        while (k < text.length()) {
            int from = k;
            char sign = text.charAt(k);
            if (sign == 32 || sign == 10) {
                k++;
            } else if (isLetter(sign)) {
                while (k < text.length() && isLetter(text.charAt(k))) {
                    k++;
                }
                tokens.add(new Token(WORD, text.substring(from, k), from));
            } else if (isDigit(sign)) {
                while (k < text.length() && isDigit(text.charAt(k))) {
                    k++;
                }
                tokens.add(new Token(NUMBER, text.substring(from, k), from));
            } else {
                k++;
                tokens.add(new Token(";()+-*/<=".indexOf(sign) < 0 ? NOTHING : sign, "", from));
            }
        }
        tokens.add(new Token(END, "", text.length()));
    }

    private static boolean isLetter(char sign) {
        return 'a' <= sign && sign <= 'z';
    }

    private static boolean isDigit(char sign) {
        return '0' <= sign && sign <= '9';
    }

    private Token here() {
        return tokens.get(at);
    }

    private boolean isWord(String word) {
        return here().kind == WORD && here().text.equals(word);
    }

    private boolean isSign(char sign) {
        return here().kind == sign;
    }

    private Fault fault(int number) {
        return new Fault(number, here().place);
    }

    private void take(char sign) {
        if (!isSign(sign)) {
            throw fault(1);
        }
        at++;
    }

    private int number(int least, int most) {
        if (here().kind != NUMBER) {
            throw fault(1);
        }
        if (here().text.length() > 4) {
            throw fault(2);
        }
        int number = Integer.parseInt(here().text);
        if (number < least || number > most) {
            throw fault(2);
        }
        at++;
        return number;
    }

    // ---- lines

    private void line() {
        boolean marbled = isWord("marbled");
        if (marbled || isWord("head")) {
            if (heads.size() == 8) {
                throw fault(2);
            }
            at++;
            int sugar = number(1, 99);
            int almond = number(0, 9);
            int one = number(0, 63);
            int two = marbled ? number(0, 63) : one;
            take(';');
            heads.add(new int[] {sugar, almond, one, two, marbled ? 1 : 0});
        } else if (isWord("heat")) {
            heatLine();
        } else if (isWord("melts")) {
            if (melts != null) {
                throw fault(5);
            }
            melts = rule(MELTS_VALUES);
        } else if (isWord("leans")) {
            if (leans != null) {
                throw fault(5);
            }
            leans = rule(LEANS_VALUES);
        } else {
            throw fault(1);
        }
    }

    private void heatLine() {
        if (!heat.isEmpty()) {
            throw fault(5);
        }
        at++;
        do {
            if (heat.size() == 8 && here().kind == NUMBER) {
                throw fault(2);
            }
            heat.add(number(0, 9));
        } while (here().kind == NUMBER);
        take(';');
    }

    private Expr rule(List<String> itsValues) {
        at++;
        values = itsValues;
        Expr expr = expr(0);
        take(';');
        return expr;
    }

    // ---- rules

    private Expr expr(int others) {
        boolean couldStand = here().kind == NUMBER || here().kind == WORD || isSign('(');
        if (others == 6) {
            throw fault(couldStand ? 2 : 1);
        }
        Expr left = and(others);
        while (isWord("or")) {
            at++;
            Expr a = left;
            Expr b = and(others);
            left = v -> holds(a.of(v) != 0 | b.of(v) != 0);
        }
        return left;
    }

    private Expr and(int others) {
        Expr left = not(others, 1);
        while (isWord("and")) {
            at++;
            Expr a = left;
            Expr b = not(others, 1);
            left = v -> holds(a.of(v) != 0 & b.of(v) != 0);
        }
        return left;
    }

    private Expr not(int others, int which) {
        if (isWord("not")) {
            if (which == 7) {
                throw fault(2);
            }
            at++;
            Expr of = not(others, which + 1);
            return v -> holds(of.of(v) == 0);
        }
        Expr a = sum(others);
        if (isSign('<') || isSign('=')) {
            boolean less = isSign('<');
            at++;
            Expr b = sum(others);
            return v -> holds(less ? a.of(v) < b.of(v) : a.of(v) == b.of(v));
        }
        return a;
    }

    private Expr sum(int others) {
        Expr left = product(others);
        while (isSign('+') || isSign('-')) {
            int sign = isSign('+') ? 1 : -1;
            at++;
            Expr a = left;
            Expr b = product(others);
            left = v -> a.of(v) + sign * b.of(v);
        }
        return left;
    }

    private Expr product(int others) {
        Expr left = part(others);
        while (isSign('*') || isSign('/')) {
            boolean times = isSign('*');
            at++;
            Expr a = left;
            Expr b = part(others);
            left = v -> times ? a.of(v) * b.of(v) : over(a.of(v), b.of(v));
        }
        return left;
    }

    private Expr part(int others) {
        if (here().kind == NUMBER) {
            int number = number(0, 9999);
            return v -> number;
        }
        if (here().kind == WORD) {
            String word = here().text;
            if (!values.contains(word)) {
                throw fault(3);
            }
            at++;
            return v -> v.get(word);
        }
        take('(');
        Expr inside = expr(others + 1);
        take(')');
        return inside;
    }

    private static int holds(boolean test) {
        return test ? 1 : 0;
    }

    /** By 64 bits, so that the least int by -1 wraps as the others do. */
    private static int over(int a, int b) {
        return b == 0 ? 0 : (int) ((long) a / b);
    }
}
