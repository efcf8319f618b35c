import java.util.Random;

/** Texts by chance: mostly sound ones, some with a part changed. */
final class Texts {
    private static final String[] NAMES = {"step", "heart", "rote", "she", "said", "question", "place", "nerve",
        "year", "children", "glad"};
    private static final String[] PIECES = {"yes", "counts", "joy", "when", "or", "and", "not", "step", "said", "ask",
        "in", "wed", "cough", "part", "woman", "sister", "0", "1", "2", "11", "99", "100", "999", "1000", "12345", ";",
        "+", "-", "*", "/", "(", ")", "<", "=", ">", ",", "Yes", "yesX", "\t", "\n", "\u00e9", "foo", "!", ""};

    private final Random r;

    Texts(Random r) {
        this.r = r;
    }

    String text(int k) {
        StringBuilder s = new StringBuilder();
        int lines = r.nextInt(6) == 0 ? 14 + r.nextInt(5) : r.nextInt(6);
        for (int i = 0; i < lines; i++) {
            String line = k == 0 ? lawLine() : k == 1 ? questionLine() : k == 2 ? yearLine() : sisterLine();
            if (lines > 13 && k == 0 && r.nextInt(4) != 0) line = "joy " + small() + ";";
            if (lines > 13 && k == 2 && r.nextInt(4) != 0) line = "in " + r.nextInt(30) + " cough " + r.nextInt(4) + ";";
            if (lines > 13 && k == 3 && r.nextInt(3) != 0) line = "woman 0 sister 1;";
            if (s.length() + line.length() <= 398) s.append(line);
        }
        String whole = s.toString();
        if (r.nextInt(4) == 0) whole = changed(whole);
        return whole.length() > 400 ? whole.substring(0, 400) : whole;
    }

    private String changed(String s) {
        int at = r.nextInt(s.length() + 1);
        String piece = PIECES[r.nextInt(PIECES.length)];
        int cut = Math.min(s.length(), at + r.nextInt(4));
        switch (r.nextInt(3)) {
            case 0: return s.substring(0, at);
            case 1: return s.substring(0, at) + " " + piece + " " + s.substring(at);
            default: return s.substring(0, at) + piece + s.substring(cut);
        }
    }

    private String gap() {
        return r.nextInt(12) == 0 ? "\n " : " ";
    }

    private String small() {
        return String.valueOf(r.nextInt(5) == 0 ? r.nextInt(10000) : r.nextInt(12));
    }

    private String u() {
        return r.nextInt(2) == 0 ? NAMES[r.nextInt(NAMES.length)] : small();
    }

    private String t() {
        StringBuilder s = new StringBuilder(u());
        for (int n = r.nextInt(8); n > 5; n--) {
            if (r.nextBoolean()) s.append("*").append(gap()).append(u());
            else s.append("/").append(r.nextInt(30) == 0 ? 0 : 1 + r.nextInt(9));
        }
        return s.toString();
    }

    private String e() {
        StringBuilder s = new StringBuilder(t());
        for (int n = r.nextInt(6); n > 3; n--) s.append(r.nextBoolean() ? "+" : "-").append(t());
        return s.toString();
    }

    private String c(int depth) {
        int kind = r.nextInt(6);
        if (depth < 10 && kind == 0) return "not " + c(depth + 1);
        if (depth < 10 && kind == 1) return "(" + b(depth + 1) + ")";
        return e() + gap() + "<=>".charAt(r.nextInt(3)) + e();
    }

    private String b(int depth) {
        StringBuilder s = new StringBuilder(c(depth));
        for (int n = r.nextInt(6); n > 3; n--) s.append(r.nextBoolean() ? " or " : " and ").append(c(depth));
        return s.toString();
    }

    private String deep() {
        StringBuilder s = new StringBuilder();
        int n = 6 + r.nextInt(4);
        int opened = 0;
        for (int i = 0; i < n; i++) {
            if (r.nextBoolean()) {
                s.append("(");
                opened++;
            } else {
                s.append("not ");
            }
        }
        s.append(e()).append("<").append(e());
        for (int i = 0; i < opened; i++) s.append(")");
        return s.toString();
    }

    String lawLine() {
        String word = new String[] {"yes", "counts", "joy"}[r.nextInt(3)];
        String value = word.equals("yes") && r.nextBoolean() ? "100*" + t() + "+" + e() : e();
        String when = r.nextInt(12) == 0 ? " when " + deep() : r.nextInt(3) != 0 ? " when " + b(0) : "";
        return word + gap() + value + when + ";";
    }

    String questionLine() {
        return "ask" + gap() + (r.nextInt(30) == 0 ? 100 : r.nextInt(100)) + ";";
    }

    String yearLine() {
        String in = "in " + (r.nextInt(40) == 0 ? 1000 : r.nextInt(40));
        switch (r.nextInt(4)) {
            case 0: return in + " cough " + r.nextInt(7) + ";";
            case 1: return in + " part " + r.nextInt(4) + ";";
            default:
                int a = r.nextInt(6);
                int b = r.nextInt(12) == 0 ? a : (a + 1 + r.nextInt(2)) % 6;
                int c = r.nextInt(12) == 0 ? b : (a + 3 + r.nextInt(3)) % 6;
                return in + " wed " + r.nextInt(4) + gap() + a + " " + b + " " + c + ";";
        }
    }

    String sisterLine() {
        int a = r.nextInt(9);
        int b = r.nextInt(15) == 0 ? a : (a + 1 + r.nextInt(7)) % 9;
        return "woman " + a + gap() + "sister " + b + ";";
    }
}
