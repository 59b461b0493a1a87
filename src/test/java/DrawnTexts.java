import java.util.Random;

/** Texts by draws: such as hold, and such as were spoilt in one or more places. */
final class DrawnTexts {
    private static final String[] VALUES = {"heads", "hidden", "jam", "habit", "stones", "year"};
    private static final String[] PIECES = {"house", "at", "heads", "jam", "habit", "spit", "tax", "grow", "draw", "or",
        "and", "not", "hidden", "stones", "year", "zed", "abcdefgh", "abcdefghi", ";", "(", ")", "<", ">", "=", "+", "-",
        "*", "/", "%", "0", "7", "10", "61", "999", "1000", "9999", "10000", "3x", "$", "A", "\t", "\u0000", "\u00ff"};

    /** Laws of which something comes: drawn ones often answer the same for all. */
    private static final String[][] SENSIBLE = {
        {"spit", "heads-hidden", "heads-hidden+jam", "heads*2-hidden", "heads+hidden*2", "heads-hidden+year%3",
            "(heads-hidden)*(habit+1)", "(heads-hidden)*11+jam*7+habit*5"},
        {"tax", "stones*stones", "stones*2+jam", "(stones>2)*5+stones", "stones*(year+1)", "(stones%3)*4", "10-stones",
            "stones%4*(stones%5)+1"},
        {"grow", "1", "heads<3", "stones-heads", "(stones>5)*2-1", "0-year%2", "jam-habit", "(heads=7)*(0-3)+1"}};

    private final Random draws;
    private int units;

    DrawnTexts(Random draws) {
        this.draws = draws;
    }

    private int below(int n) {
        return draws.nextInt(n);
    }

    private String gap() {
        int n = below(8);
        return n == 0 ? "\n" : n == 1 ? "  " : " ";
    }

    private String maybeGap() {
        return below(3) == 0 ? gap() : "";
    }

    String valid() {
        StringBuilder s = new StringBuilder();
        int houses = below(10) == 0 ? 0 : 1 + below(5);
        int laws = below(16);
        String[] names = {"a", "bb", "carl", "d", "eve", "zz", "abcdefgh", "province", "line"};
        int shift = below(names.length);
        for (int h = 0; h < houses; h++) {
            s.append("house").append(gap()).append(names[(h + shift) % names.length]).append(gap()).append("at");
            s.append(maybeGap()).append(below(3) == 0 ? below(61) : below(12)).append(gap()).append("heads");
            s.append(maybeGap()).append(below(8));
            if (below(2) == 0) {
                s.append(gap()).append("jam").append(maybeGap()).append(below(3) == 0 ? below(10) : below(4));
            }
            if (below(2) == 0) {
                s.append(gap()).append("habit").append(maybeGap()).append(below(10));
            }
            s.append(maybeGap()).append(';').append(maybeGap());
            if (h == houses / 2 && (laws & 1) != 0) {
                s.append("draw").append(gap()).append(below(1000)).append(";");
            }
        }
        if ((laws & 2) != 0) {
            law(s, "spit");
        }
        if ((laws & 4) != 0) {
            law(s, "tax");
        }
        if ((laws & 8) != 0) {
            law(s, "grow");
        }
        return s.length() > 1600 ? valid() : s.toString();
    }

    private void law(StringBuilder s, String word) {
        s.append(word).append(gap());
        for (String[] laws : SENSIBLE) {
            if (laws[0].equals(word) && below(2) == 0) {
                s.append(laws[1 + below(laws.length - 1)]).append(';');
                return;
            }
        }
        units = 2 + below(29);
        if (below(6) == 0) {
            units = 2;
        }
        either(s, 0);
        s.append(maybeGap()).append(';').append(maybeGap());
    }

    private void either(StringBuilder s, int depth) {
        both(s, depth);
        while (below(6) == 0 && units > 2) {
            s.append(gap()).append("or").append(gap());
            both(s, depth);
        }
    }

    private void both(StringBuilder s, int depth) {
        one(s, depth);
        while (below(6) == 0 && units > 2) {
            s.append(gap()).append("and").append(gap());
            one(s, depth);
        }
    }

    private void one(StringBuilder s, int depth) {
        if (below(7) == 0 && depth < 7) {
            s.append("not").append(gap());
            one(s, depth + 1);
            return;
        }
        sum(s, depth);
        if (below(5) == 0 && units > 2) {
            s.append(maybeGap()).append("<>=".charAt(below(3))).append(maybeGap());
            sum(s, depth);
        }
    }

    private void sum(StringBuilder s, int depth) {
        term(s, depth);
        while (below(3) == 0 && units > 2) {
            s.append(maybeGap()).append("+-".charAt(below(2))).append(maybeGap());
            term(s, depth);
        }
    }

    private void term(StringBuilder s, int depth) {
        unit(s, depth);
        while (below(3) == 0 && units > 2) {
            s.append(maybeGap()).append("*/%".charAt(below(3))).append(maybeGap());
            unit(s, depth);
        }
    }

    private void unit(StringBuilder s, int depth) {
        units--;
        if (depth < 7 && units > 2 && below(4) == 0) {
            s.append('(').append(maybeGap());
            either(s, depth + 1);
            s.append(maybeGap()).append(')');
        } else if (below(3) == 0) {
            s.append(below(3) == 0 ? below(10000) : below(10));
        } else {
            s.append(VALUES[below(6)]);
        }
    }

    String broken() {
        StringBuilder s = new StringBuilder(valid());
        for (int i = below(3); i >= 0; i--) {
            int at = below(s.length() + 1);
            switch (below(6)) {
                case 0 -> s.insert(at, PIECES[below(PIECES.length)]);
                case 1 -> s.insert(at, " " + PIECES[below(PIECES.length)] + " ");
                case 2 -> s.delete(at, Math.min(s.length(), at + 1 + below(3)));
                case 3 -> s.setLength(at);
                case 4 -> s.append(valid());
                default -> s.replace(at, Math.min(s.length(), at + 1), "" + (char) below(256));
            }
        }
        if (s.length() > 1600) {
            s.setLength(1600);
        }
        return s.toString();
    }
}
