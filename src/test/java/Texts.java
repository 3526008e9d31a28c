import java.util.Random;

/** Texts of skies by draws: right ones, and ones with something spoilt. */
final class Texts {
    private static final String[] PIECES = {
        "sky", "clouds", "wind", "wish", "by", "weight", "must", "or", "and", "not", "wet", "of", "on", "all",
        "0", "1", "2", "3", "9", "12", "999", "1000", "007", "0000", ";", ":", "+", "-", "*", "(", ")", "[", "]",
        "=", "<", ">", "\n", " ", "x", "andor", "A", "\t", "$", "\u00e9", "[[[[", "((((((", "not not not "
    };

    private final Random draws;
    private int parishes;
    private int days;

    Texts(Random draws) {
        this.draws = draws;
    }

    private boolean oneOf(int n) {
        return draws.nextInt(n) == 0;
    }

    String right(int mostCells) {
        do {
            parishes = 1 + draws.nextInt(4);
            days = 1 + draws.nextInt(6);
        } while (parishes * days > mostCells);
        StringBuilder b = new StringBuilder();
        b.append("sky ").append(parishes).append(' ').append(days).append(';');
        int lines = draws.nextInt(14);
        int wishes = 0;
        for (int k = 0; k < lines && b.length() < 800; k++) {
            int kind = draws.nextInt(8);
            if (kind == 0) {
                b.append("clouds ").append(draws.nextInt(7)).append(';');
            } else if (kind == 1) {
                b.append("wind ").append(draws.nextInt(4)).append(" ;");
            } else if (wishes < 10 || oneOf(4)) {
                wishes++;
                wish(b);
            }
        }
        return b.length() <= 900 ? b.toString() : right(mostCells);
    }

    /** Wishes that can each be granted, but often not together. */
    String quarrelsome(int mostCells) {
        do {
            parishes = 1 + draws.nextInt(4);
            days = 1 + draws.nextInt(6);
        } while (parishes * days > mostCells || parishes * days < 2);
        StringBuilder b = new StringBuilder();
        b.append("sky ").append(parishes).append(' ').append(days).append(";clouds ").append(1 + draws.nextInt(4));
        b.append(";wind ").append(draws.nextInt(3)).append(';');
        int wishes = 4 + draws.nextInt(7);
        for (int k = 0; k < wishes; k++) {
            b.append("wish by ").append(draws.nextInt(3)).append(" weight ").append(1 + draws.nextInt(9));
            b.append(oneOf(25) ? " must:" : ":");
            simple(b);
            if (oneOf(3)) {
                b.append(oneOf(2) ? " and " : " or ");
                simple(b);
            }
            b.append(';');
        }
        return b.toString();
    }

    private void simple(StringBuilder b) {
        int kind = draws.nextInt(4);
        if (kind < 2) {
            b.append("wet ").append(draws.nextInt(parishes)).append(' ').append(draws.nextInt(days));
            b.append('=').append(draws.nextInt(2));
        } else if (kind == 2) {
            b.append("of ").append(draws.nextInt(parishes));
            b.append("=<>".charAt(draws.nextInt(3))).append(1 + draws.nextInt(2));
        } else {
            b.append(oneOf(2) ? "all" : "on 0");
            b.append("=<>".charAt(draws.nextInt(3))).append(1 + draws.nextInt(2));
        }
    }

    private void wish(StringBuilder b) {
        b.append(oneOf(3) ? "\nwish  by " : "wish by ").append(draws.nextInt(oneOf(2) ? 6 : 2));
        if (oneOf(2)) {
            b.append(" weight ").append(1 + draws.nextInt(9));
        }
        if (oneOf(7)) {
            b.append(" must");
        }
        b.append(':');
        truth(b, oneOf(3) ? 4 : 2);
        b.append(';');
    }

    private void truth(StringBuilder b, int deep) {
        unit(b, deep);
        while (oneOf(3)) {
            b.append(oneOf(2) ? " and " : " or ");
            unit(b, deep);
        }
    }

    private void unit(StringBuilder b, int deep) {
        if (deep > 0 && oneOf(6)) {
            b.append("not ");
            unit(b, deep - 1);
        } else if (deep > 0 && oneOf(7)) {
            b.append('[');
            truth(b, deep - 1);
            b.append(']');
        } else {
            sum(b, deep);
            b.append("=<>".charAt(draws.nextInt(3)));
            sum(b, deep);
        }
    }

    private void sum(StringBuilder b, int deep) {
        atom(b, deep);
        while (oneOf(4)) {
            b.append("+-*".charAt(draws.nextInt(3)));
            atom(b, deep);
        }
    }

    private void atom(StringBuilder b, int deep) {
        int kind = draws.nextInt(9);
        if (kind < 3) {
            b.append("wet ").append(draws.nextInt(parishes)).append(' ').append(draws.nextInt(days));
        } else if (kind == 3) {
            b.append("of ").append(draws.nextInt(parishes));
        } else if (kind == 4) {
            b.append("on ").append(draws.nextInt(days));
        } else if (kind == 5) {
            b.append("all");
        } else if (kind == 6 && deep > 0) {
            b.append('(');
            sum(b, deep - 1);
            b.append(')');
        } else {
            b.append(oneOf(12) ? 900 + draws.nextInt(100) : draws.nextInt(4));
        }
    }

    String spoilt(int mostCells) {
        StringBuilder b = new StringBuilder(right(mostCells));
        int times = 1 + draws.nextInt(2);
        for (int k = 0; k < times; k++) {
            int at = draws.nextInt(b.length() + 1);
            int to = Math.min(b.length(), at + draws.nextInt(5));
            if (oneOf(2)) {
                b.delete(at, to);
            }
            if (oneOf(2)) {
                b.insert(Math.min(at, b.length()), PIECES[draws.nextInt(PIECES.length)]);
            }
            if (oneOf(6)) {
                b.setLength(Math.min(at, b.length()));
            }
        }
        return b.length() <= 900 ? b.toString() : right(mostCells);
    }

    /** Tokens one behind the other, so that the reader is met in every state. */
    String jumble() {
        StringBuilder b = new StringBuilder("sky 2 2;wish by 0:");
        int many = draws.nextInt(12);
        for (int k = 0; k < many; k++) {
            b.append(PIECES[draws.nextInt(PIECES.length)]).append(oneOf(2) ? " " : "");
        }
        return b.toString();
    }
}
