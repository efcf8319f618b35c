import java.util.ArrayList;
import java.util.Arrays;
import java.util.HashMap;
import java.util.List;
import java.util.Map;
import java.util.TreeSet;
import java.util.function.ToIntFunction;

/**
 * The document once more, written for plainness alone: whatever can be found by trying all is found
 * so. ModelTest holds the class against it.
 */
final class Model {
    static final int NONE = -1;

    static final class Woman {
        int step, heart, rote, wed = NONE;

        Woman copy() {
            Woman w = new Woman();
            w.step = step;
            w.heart = heart;
            w.rote = rote;
            w.wed = wed;
            return w;
        }
    }

    static final class Groom {
        int nerve, pledged, wife = NONE, glad, children, weds;

        Groom copy() {
            Groom g = new Groom();
            g.nerve = nerve;
            g.pledged = pledged;
            g.wife = wife;
            g.glad = glad;
            g.children = children;
            g.weds = weds;
            return g;
        }
    }

    /** What the law looks at. */
    static final class Case {
        final Map<String, Integer> names = new HashMap<>();
    }

    static final class LawLine {
        String word;
        ToIntFunction<Case> value;
        ToIntFunction<Case> when;
    }

    static final class World {
        List<Woman> women = new ArrayList<>();
        List<Groom> grooms = new ArrayList<>();
        int year, town, state;
        TreeSet<Integer> coughs = new TreeSet<>();
        List<int[]> book = new ArrayList<>();
        List<LawLine> law = new ArrayList<>();
        List<int[]> questions = new ArrayList<>();
        List<int[]> years = new ArrayList<>();
        List<int[]> sisters = new ArrayList<>();
        List<int[]> men = new ArrayList<>();
        List<int[]> guesses = new ArrayList<>();
        List<int[]> bets = new ArrayList<>();
        List<int[]> streets = new ArrayList<>();
        List<Integer> steps = new ArrayList<>();
        List<Integer> offers = new ArrayList<>();
        int[][] carriages = {{1, 0}, {1, 0}, {1, 0}};

        World copy() {
            World w = new World();
            for (Woman x : women) w.women.add(x.copy());
            for (Groom x : grooms) w.grooms.add(x.copy());
            w.year = year;
            w.town = town;
            w.state = state;
            w.coughs = new TreeSet<>(coughs);
            w.book = new ArrayList<>(book);
            w.law = law;
            w.questions = questions;
            w.years = years;
            w.sisters = sisters;
            w.men = new ArrayList<>(men);
            w.guesses = new ArrayList<>(guesses);
            w.bets = new ArrayList<>(bets);
            w.streets = new ArrayList<>(streets);
            w.steps = new ArrayList<>(steps);
            w.offers = new ArrayList<>(offers);
            w.carriages = new int[][] {carriages[0].clone(), carriages[1].clone(), carriages[2].clone()};
            return w;
        }
    }

    World w = new World();
    World image;
    final List<World> undo = new ArrayList<>();
    String tape = "";
    int faultKind = 0;
    int faultPlace = NONE;
    boolean thinking = false;

    // ---- small helpers

    static boolean in(int v, int a, int b) {
        return a <= v && v <= b;
    }

    boolean isWoman(int i) {
        return in(i, 0, w.women.size() - 1);
    }

    boolean isGroom(int i) {
        return in(i, 0, w.grooms.size() - 1);
    }

    boolean three(int a, int b, int c) {
        return isWoman(a) && isWoman(b) && isWoman(c) && a != b && a != c && b != c;
    }

    int draw(int m) {
        w.state = w.state * 1664525 + 1013904223;
        long high = (w.state & 0xffffffffL) / 256;
        return (int) (high % m);
    }

    void write(int what, int who, int much) {
        if (!thinking && w.book.size() < 150) w.book.add(new int[] {w.year, what, who, much});
    }

    void keep() {
        undo.add(w.copy());
        if (undo.size() > 6) undo.remove(0);
    }

    static int setOf(Iterable<Integer> members) {
        int s = 0;
        for (int m : members) s += 1 << m;
        return s;
    }

    // ---- telling

    int state(int v) {
        int was = w.state;
        w.state = v;
        undo.clear();
        return was;
    }

    int woman(int step, int heart, int rote) {
        if (!in(step, 0, 9) || !in(heart, 0, 9) || !in(rote, 0, 9) || w.women.size() == 12) return NONE;
        Woman x = new Woman();
        x.step = step;
        x.heart = heart;
        x.rote = rote;
        w.women.add(x);
        undo.clear();
        return w.women.size() - 1;
    }

    int groom(int nerve, int pledged) {
        if (!in(nerve, 0, 9) || !isWoman(pledged) || w.grooms.size() == 8) return NONE;
        Groom x = new Groom();
        x.nerve = nerve;
        x.pledged = pledged;
        w.grooms.add(x);
        undo.clear();
        return w.grooms.size() - 1;
    }

    boolean set(int what, int who, int v) {
        if (!in(what, 0, 5)) return false;
        if (what <= 2 ? !isWoman(who) : !isGroom(who)) return false;
        if (what <= 3 && !in(v, 0, 9)) return false;
        if (what == 4 && !isWoman(v)) return false;
        if (what == 5 && !in(v, -99, 99)) return false;
        if (what == 0) w.women.get(who).step = v;
        if (what == 1) w.women.get(who).heart = v;
        if (what == 2) w.women.get(who).rote = v;
        if (what == 3) w.grooms.get(who).nerve = v;
        if (what == 4) w.grooms.get(who).pledged = v;
        if (what == 5) w.grooms.get(who).glad = v;
        undo.clear();
        return true;
    }

    // ---- the law

    int law(String word, int groom, int woman, int question, int place, boolean said) {
        Woman x = w.women.get(woman);
        Groom g = w.grooms.get(groom);
        Case c = new Case();
        int she = g.pledged == woman ? 1 : 0;
        c.names.put("step", x.step);
        c.names.put("heart", x.heart);
        c.names.put("rote", x.rote);
        c.names.put("she", she);
        c.names.put("said", said ? 1 : 0);
        c.names.put("question", question);
        c.names.put("place", place);
        c.names.put("nerve", g.nerve);
        c.names.put("year", w.year);
        c.names.put("children", g.children);
        c.names.put("glad", g.glad);
        int v = word.equals("yes") ? 500 + 40 * x.heart - 30 * x.rote + 200 * she
                : word.equals("counts") ? 1 : x.heart - 4 + she;
        for (LawLine l : w.law) {
            if (l.word.equals(word) && (l.when == null || l.when.applyAsInt(c) == 1)) {
                v = l.value.applyAsInt(c);
                break;
            }
        }
        int low = word.equals("yes") ? 0 : word.equals("counts") ? -99 : -20;
        int high = word.equals("yes") ? 1000 : word.equals("counts") ? 99 : 20;
        return v < low ? low : v > high ? high : v;
    }

    // ---- weddings and years

    boolean canWed(int groom, int a, int b, int c) {
        return isGroom(groom) && three(a, b, c) && w.grooms.get(groom).wife == NONE
                && w.women.get(a).wed == NONE && w.women.get(b).wed == NONE && w.women.get(c).wed == NONE;
    }

    /** The landau's number and its points. */
    int[] choose(int groom, int[] who) {
        int[] points = new int[3];
        for (int[] q : w.questions) {
            for (int i = 0; i < 3; i++) {
                int yes = law("yes", groom, who[i], q[0], i, false);
                boolean said = thinking ? yes >= 500 : draw(1000) < yes;
                write(said ? 0 : 1, who[i], q[0]);
                points[i] += law("counts", groom, who[i], q[0], i, said);
            }
        }
        for (int i = 0; i < 3; i++) {
            if (w.coughs.remove(who[i])) {
                points[i] += 10;
                write(2, who[i], i);
            }
        }
        int best = 0;
        for (int i = 1; i < 3; i++) if (points[i] > points[best]) best = i;
        return new int[] {best, points[best], points[0], points[1], points[2]};
    }

    int marry(int groom, int a, int b, int c) {
        int[] who = {a, b, c};
        int[] chosen = choose(groom, who);
        int bride = who[chosen[0]];
        write(3, bride, chosen[1]);
        Groom g = w.grooms.get(groom);
        g.wife = bride;
        g.weds++;
        w.women.get(bride).wed = groom;
        w.town = g.pledged == bride ? w.town - 3 : w.town + 1;
        return bride;
    }

    void divorce(int groom) {
        Groom g = w.grooms.get(groom);
        write(5, groom, g.glad);
        w.women.get(g.wife).wed = NONE;
        g.wife = NONE;
        g.glad = 0;
    }

    int year() {
        for (int[] l : w.years) {
            if (l[0] != w.year) continue;
            if (l[1] == 0 && canWed(l[2], l[3], l[4], l[5])) marry(l[2], l[3], l[4], l[5]);
            if (l[1] == 1) w.coughs.add(l[2]);
            if (l[1] == 2 && w.grooms.get(l[2]).wife != NONE) divorce(l[2]);
        }
        int born = 0;
        for (int i = 0; i < w.grooms.size(); i++) {
            Groom g = w.grooms.get(i);
            if (g.wife == NONE) continue;
            g.glad = Math.max(-99, Math.min(99, g.glad + law("joy", i, g.wife, 0, 0, false)));
            if (g.children < 20) {
                int likely = Math.max(0, Math.min(1000, 100 + 5 * g.glad));
                if (thinking ? likely >= 500 : draw(1000) < likely) {
                    g.children++;
                    born++;
                    write(4, i, g.children);
                }
            }
        }
        w.year++;
        return born;
    }

    int wed(int groom, int a, int b, int c) {
        if (!canWed(groom, a, b, c)) return NONE;
        keep();
        return marry(groom, a, b, c);
    }

    boolean part(int groom) {
        if (!isGroom(groom) || w.grooms.get(groom).wife == NONE) return false;
        keep();
        divorce(groom);
        return true;
    }

    boolean cough(int woman, boolean is) {
        if (!isWoman(woman) || w.coughs.contains(woman) == is) return false;
        keep();
        if (is) w.coughs.add(woman); else w.coughs.remove(woman);
        return true;
    }

    int years(int n) {
        if (!in(n, 1, 60) || w.year + n > 9999) return NONE;
        int born = 0;
        for (int i = 0; i < n; i++) {
            keep();
            born += year();
        }
        return born;
    }

    // ---- the tape and the texts

    int feed(int a, int b, int c, int d, int e) {
        if (tape.length() + 20 > 400) return NONE;
        StringBuilder more = new StringBuilder(tape);
        for (int v : new int[] {a, b, c, d, e}) {
            more.append((char) (v >>> 24)).append((char) (v >>> 16 & 255));
            more.append((char) (v >>> 8 & 255)).append((char) (v & 255));
        }
        tape = more.toString();
        return tape.length();
    }

    boolean end(int n) {
        if (n < 0 || n > tape.length()) return false;
        tape = tape.substring(0, n);
        return true;
    }

    static final class Fault extends Exception {
        private static final long serialVersionUID = 1L;
        final int kind, place;

        Fault(int kind, int place) {
            this.kind = kind;
            this.place = place;
        }
    }

    /** A text as it is read, from the left. */
    static final class Source {
        final String s;
        int at, open, lines;

        Source(String s) {
            this.s = s;
        }

        void blanks() {
            while (at < s.length() && (s.charAt(at) == 32 || s.charAt(at) == 10)) at++;
        }

        /** The token that comes, "" at the end. */
        String peek() {
            blanks();
            if (at == s.length()) return "";
            String rest = s.substring(at);
            String run = rest.replaceFirst("(?s)^([a-zA-Z]+|[0-9]+|.).*$", "$1");
            return run;
        }

        boolean sees(String t) {
            return peek().equals(t);
        }

        void want(String t) throws Fault {
            if (!sees(t)) throw new Fault(1, at);
            at += t.length();
        }

        boolean takes(String t) {
            if (!sees(t)) return false;
            at += t.length();
            return true;
        }

        int number(int bound, int... others) throws Fault {
            String t = peek();
            if (!t.matches("[0-9]{1,4}")) throw new Fault(1, at);
            int v = Integer.parseInt(t);
            if (v >= bound) throw new Fault(2, at);
            for (int o : others) if (o == v) throw new Fault(2, at);
            at += t.length();
            return v;
        }

        void line(String... words) throws Fault {
            if (!Arrays.asList(words).contains(peek())) throw new Fault(1, at);
            lines++;
            if (lines > 16) throw new Fault(3, at);
        }

        ToIntFunction<Case> u() throws Fault {
            String t = peek();
            if (t.matches("[0-9]+")) {
                int v = number(10000);
                return c -> v;
            }
            if (!List.of("step", "heart", "rote", "she", "said", "question", "place", "nerve", "year",
                    "children", "glad").contains(t)) {
                throw new Fault(1, at);
            }
            at += t.length();
            return c -> c.names.get(t);
        }

        ToIntFunction<Case> t() throws Fault {
            ToIntFunction<Case> left = u();
            while (true) {
                ToIntFunction<Case> l = left;
                if (takes("*")) {
                    ToIntFunction<Case> r = u();
                    left = c -> l.applyAsInt(c) * r.applyAsInt(c);
                } else if (takes("/")) {
                    int by = number(10000, 0);
                    left = c -> l.applyAsInt(c) / by;
                } else {
                    return left;
                }
            }
        }

        ToIntFunction<Case> e() throws Fault {
            ToIntFunction<Case> left = t();
            while (true) {
                ToIntFunction<Case> l = left;
                if (takes("+")) {
                    ToIntFunction<Case> r = t();
                    left = c -> l.applyAsInt(c) + r.applyAsInt(c);
                } else if (takes("-")) {
                    ToIntFunction<Case> r = t();
                    left = c -> l.applyAsInt(c) - r.applyAsInt(c);
                } else {
                    return left;
                }
            }
        }

        ToIntFunction<Case> b() throws Fault {
            ToIntFunction<Case> left = a();
            while (takes("or")) {
                ToIntFunction<Case> l = left;
                ToIntFunction<Case> r = a();
                left = c -> Math.max(l.applyAsInt(c), r.applyAsInt(c));
            }
            return left;
        }

        ToIntFunction<Case> a() throws Fault {
            ToIntFunction<Case> left = c();
            while (takes("and")) {
                ToIntFunction<Case> l = left;
                ToIntFunction<Case> r = c();
                left = c -> Math.min(l.applyAsInt(c), r.applyAsInt(c));
            }
            return left;
        }

        ToIntFunction<Case> c() throws Fault {
            if (sees("not") || sees("(")) {
                if (open == 8) throw new Fault(3, at);
                open++;
                ToIntFunction<Case> whole;
                if (takes("not")) {
                    ToIntFunction<Case> inner = c();
                    whole = c -> inner.applyAsInt(c) == 0 ? 1 : 0;
                } else {
                    want("(");
                    whole = b();
                    want(")");
                }
                open--;
                return whole;
            }
            ToIntFunction<Case> l = e();
            String sign = peek();
            if (!List.of("<", "=", ">").contains(sign)) throw new Fault(1, at);
            at++;
            ToIntFunction<Case> r = e();
            return c -> {
                int x = Integer.compare(l.applyAsInt(c), r.applyAsInt(c));
                return x == (sign.equals("<") ? -1 : sign.equals("=") ? 0 : 1) ? 1 : 0;
            };
        }

        LawLine lawLine() throws Fault {
            LawLine l = new LawLine();
            line("yes", "counts", "joy");
            l.word = peek();
            want(l.word);
            l.value = e();
            if (takes("when")) l.when = b();
            want(";");
            return l;
        }

        int[] question() throws Fault {
            line("ask");
            want("ask");
            int n = number(100);
            want(";");
            return new int[] {n};
        }

        int[] yearLine(int women, int grooms) throws Fault {
            line("in");
            want("in");
            int y = number(1000);
            int[] l;
            if (takes("wed")) {
                int g = number(grooms);
                int a = number(women);
                int b = number(women, a);
                int c = number(women, a, b);
                l = new int[] {y, 0, g, a, b, c};
            } else if (takes("cough")) {
                l = new int[] {y, 1, number(women)};
            } else {
                want("part");
                l = new int[] {y, 2, number(grooms)};
            }
            want(";");
            return l;
        }

        int[] sisterLine(int women) throws Fault {
            line("woman");
            want("woman");
            int a = number(women);
            want("sister");
            int b = number(women, a);
            want(";");
            return new int[] {a, b};
        }
    }

    int text(int k) {
        Source s = new Source(tape);
        tape = "";
        faultKind = 0;
        faultPlace = NONE;
        if (!in(k, 0, 3)) return NONE;
        List<LawLine> laws = new ArrayList<>();
        List<int[]> lines = new ArrayList<>();
        try {
            while (!s.sees("")) {
                if (k == 0) laws.add(s.lawLine());
                if (k == 1) lines.add(s.question());
                if (k == 2) lines.add(s.yearLine(w.women.size(), w.grooms.size()));
                if (k == 3) lines.add(s.sisterLine(w.women.size()));
            }
        } catch (Fault f) {
            faultKind = f.kind;
            faultPlace = f.place;
            return NONE;
        }
        if (k == 0) w.law = laws;
        if (k == 1) w.questions = lines;
        if (k == 2) w.years = lines;
        if (k == 3) w.sisters = lines;
        if (k == 1 || k == 2) undo.clear();
        return k == 0 ? laws.size() : lines.size();
    }

    int fault(int what) {
        return what == 0 ? faultKind : what == 1 ? faultPlace : NONE;
    }

    // ---- looking

    TreeSet<Integer> sistersOf(int woman) {
        TreeSet<Integer> found = new TreeSet<>();
        for (int[] l : w.sisters) {
            if (l[0] == woman) found.add(l[1]);
            if (l[1] == woman) found.add(l[0]);
        }
        return found;
    }

    int of(int woman, int what) {
        if (!isWoman(woman) || !in(what, 0, 5)) return -2;
        Woman x = w.women.get(woman);
        int[] all = {x.step, x.heart, x.rote, x.wed, setOf(sistersOf(woman)), w.coughs.contains(woman) ? 1 : 0};
        return all[what];
    }

    int who(int groom, int what) {
        if (!isGroom(groom)) return -100;
        Groom g = w.grooms.get(groom);
        if (what >= 10 && isWoman(what - 10)) return law("joy", groom, what - 10, 0, 0, false);
        if (!in(what, 0, 5)) return -100;
        return new int[] {g.nerve, g.pledged, g.wife, g.glad, g.children, g.weds}[what];
    }

    int yes(int groom, int woman, int q, int landau) {
        if (!isGroom(groom) || !isWoman(woman) || !in(q, 0, w.questions.size() - 1) || !in(landau, 0, 2)) return NONE;
        return law("yes", groom, woman, w.questions.get(q)[0], landau, false);
    }

    int counts(int groom, int woman, int q, int landau, boolean said) {
        if (!isGroom(groom) || !isWoman(woman) || !in(q, 0, w.questions.size() - 1) || !in(landau, 0, 2)) return -100;
        return law("counts", groom, woman, w.questions.get(q)[0], landau, said);
    }

    int book(int i, int what) {
        if (!in(i, 0, w.book.size() - 1) || !in(what, 0, 3)) return -10000;
        return w.book.get(i)[what];
    }

    int look(int what) {
        TreeSet<Integer> free = new TreeSet<>();
        for (int i = 0; i < w.women.size(); i++) if (w.women.get(i).wed == NONE) free.add(i);
        int[] all = {w.women.size(), w.grooms.size(), w.year, w.town, setOf(w.coughs), setOf(free), w.book.size(),
            w.state, w.law.size(), w.questions.size(), w.years.size(), w.sisters.size(), undo.size()};
        return in(what, 0, 12) ? all[what] : -10000;
    }

    // ---- thoughts about weddings

    interface Thought {
        int think();
    }

    int inThought(Thought t) {
        World earnest = w;
        w = w.copy();
        thinking = true;
        int answer = t.think();
        thinking = false;
        w = earnest;
        return answer;
    }

    int would(int groom, int a, int b, int c, int what) {
        if (!isGroom(groom) || !three(a, b, c) || !in(what, 0, 1)) return -10000;
        return inThought(() -> {
            int[] who = {a, b, c};
            int[] chosen = choose(groom, who);
            return what == 0 ? who[chosen[0]] : chosen[1];
        });
    }

    int goes(int n, int what) {
        if (!in(n, 1, 60) || !in(what, 0, 3)) return -10000;
        return inThought(() -> {
            for (int i = 0; i < n; i++) year();
            if (what == 0) return w.town;
            int sum = 0;
            for (Groom g : w.grooms) sum += what == 1 ? g.children : what == 2 ? g.glad : g.wife == NONE ? 0 : 1;
            return sum;
        });
    }

    int tells(int groom, int a, int b, int c, int what) {
        if (!isGroom(groom) || !three(a, b, c) || !in(what, 0, 1)) return NONE;
        int she = w.grooms.get(groom).pledged;
        List<Integer> who = List.of(a, b, c);
        if (!who.contains(she)) return NONE;
        int line = NONE;
        int far = NONE;
        for (int q = 0; q < w.questions.size(); q++) {
            int hers = yes(groom, she, q, who.indexOf(she));
            int near = 100000;
            for (int i = 0; i < 3; i++) {
                if (who.get(i) != she) near = Math.min(near, Math.abs(hers - yes(groom, who.get(i), q, i)));
            }
            if (near > far) {
                far = near;
                line = q;
            }
        }
        return what == 0 ? line : far;
    }

    int sent(int groom, int what) {
        if (!isGroom(groom) || !in(what, 0, 1)) return -10000;
        int she = w.grooms.get(groom).pledged;
        int bestSet = 0;
        int most = 0;
        for (int members = 1; members < 1 << w.women.size(); members++) {
            List<Integer> both = new ArrayList<>();
            for (int i = 0; i < 12; i++) {
                if ((members >> i & 1) == 1 && i != she && w.women.get(i).wed == NONE) both.add(i);
            }
            if (Integer.bitCount(members) != 2 || both.size() != 2) continue;
            int more = inThought(() -> {
                int[] p = choose(groom, new int[] {both.get(0), she, both.get(1)});
                return p[3] - Math.max(p[2], p[4]);
            });
            if (bestSet == 0 || more > most) {
                bestSet = members;
                most = more;
            }
        }
        if (bestSet == 0) return -10000;
        return what == 0 ? bestSet : most;
    }

    // ---- riddles

    int man(int a, int b, boolean lies) {
        if (a == NONE) {
            w.men.clear();
            return 0;
        }
        if (!in(a, 0, 5) || !in(b, 0, 5) || w.men.size() == 10) return NONE;
        w.men.add(new int[] {a, b, lies ? 1 : 0});
        return w.men.size();
    }

    int liars(int what) {
        List<boolean[]> ways = new ArrayList<>();
        for (int m = 0; m < 64; m++) {
            boolean[] lie = new boolean[6];
            for (int i = 0; i < 6; i++) lie[i] = (m >> i & 1) == 1;
            boolean good = true;
            for (int[] s : w.men) {
                boolean said = s[2] == 1;
                boolean truth = lie[s[1]] == said;
                if (lie[s[0]] ? truth : !truth) good = false;
            }
            if (good) ways.add(lie);
        }
        if (what == 0) return ways.size();
        if (ways.isEmpty()) return NONE;
        if (what == 1) {
            int fewest = 99;
            for (boolean[] l : ways) {
                int n = 0;
                for (boolean x : l) if (x) n++;
                fewest = Math.min(fewest, n);
            }
            return fewest;
        }
        if (!in(what, 10, 15)) return NONE;
        boolean some = false;
        boolean all = true;
        for (boolean[] l : ways) {
            some |= l[what - 10];
            all &= l[what - 10];
        }
        return all ? 1 : some ? NONE : 0;
    }

    int guess(int row, int right, int elsewhere) {
        if (row == NONE) {
            w.guesses.clear();
            return 0;
        }
        String s = String.valueOf(row + 1000).substring(1);
        if (!in(row, 0, 999) || !s.matches("[0-5]{3}") || right < 0 || right > 3 || elsewhere < 0 || elsewhere > 3
                || right + elsewhere > 3 || w.guesses.size() == 8) {
            return NONE;
        }
        w.guesses.add(new int[] {row, right, elsewhere});
        return w.guesses.size();
    }

    private static final String[][] COMPARED = new String[556][556];

    /** What is told of two rows: each couple is worked out once. */
    static String compare(int x, int y) {
        if (COMPARED[x][y] == null) COMPARED[x][y] = workOut(x, y);
        return COMPARED[x][y];
    }

    private static String workOut(int x, int y) {
        List<Integer> a = new ArrayList<>();
        List<Integer> b = new ArrayList<>();
        int right = 0;
        for (int by = 1; by <= 100; by *= 10) {
            if (x / by % 10 == y / by % 10) {
                right++;
            } else {
                a.add(x / by % 10);
                b.add(y / by % 10);
            }
        }
        int elsewhere = 0;
        for (Integer p : a) if (b.remove(p)) elsewhere++;
        return right + "," + elsewhere;
    }

    static List<Integer> rows() {
        List<Integer> all = new ArrayList<>();
        for (int i = 0; i < 556; i++) if (i / 10 % 10 < 6 && i % 10 < 6) all.add(i);
        return all;
    }

    int plumes(int what) {
        List<Integer> fits = new ArrayList<>();
        for (int r : rows()) {
            boolean good = true;
            for (int[] g : w.guesses) good &= compare(g[0], r).equals(g[1] + "," + g[2]);
            if (good) fits.add(r);
        }
        if (what == 0) return fits.size();
        if (fits.isEmpty() || !in(what, 1, 2)) return NONE;
        if (what == 1) return fits.get(0);
        int best = NONE;
        int least = 9999;
        for (int r : rows()) {
            Map<String, Integer> classes = new HashMap<>();
            int greatest = 0;
            for (int f : fits) greatest = Math.max(greatest, classes.merge(compare(r, f), 1, Integer::sum));
            if (greatest < least) {
                least = greatest;
                best = r;
            }
        }
        return best;
    }

    int bet(int landau, int v) {
        if (landau == NONE) {
            w.bets.clear();
            return 0;
        }
        if (!in(landau, 0, 2) || !in(v, 101, 9999) || w.bets.size() == 6) return NONE;
        w.bets.add(new int[] {landau, v});
        return w.bets.size();
    }

    int safe(int n, int what) {
        if (!in(n, 3, 300) || what != 0 && !in(what, 10, 12)) return NONE;
        int[] odds = new int[3];
        for (int[] b : w.bets) odds[b[0]] = Math.max(odds[b[0]], b[1]);
        int best = NONE;
        int[] way = null;
        for (int a = 0; a <= n; a++) {
            for (int b = 0; a + b <= n; b++) {
                int c = n - a - b;
                int back = Math.min(a * odds[0] / 100, Math.min(b * odds[1] / 100, c * odds[2] / 100));
                if (back > best) {
                    best = back;
                    way = new int[] {a, b, c};
                }
            }
        }
        return what == 0 ? best : way[what - 10];
    }

    int street(int a, int b) {
        if (a == NONE) {
            w.streets.clear();
            return 0;
        }
        if (!in(a, 0, 9) || !in(b, 0, 9) || a == b || w.streets.size() == 16) return NONE;
        w.streets.add(new int[] {a, b});
        return w.streets.size();
    }

    void paths(boolean[][] beside, int at, int b, int used, List<Integer> found) {
        if (at == b) {
            found.add(used);
            return;
        }
        for (int c = 0; c < 10; c++) {
            if (beside[at][c] && (used >> c & 1) == 0) paths(beside, c, b, c == b ? used : used | 1 << c, found);
        }
    }

    /** The most sets of these that have nothing in common; a straight street, an empty set, once. */
    int mostApart(List<Integer> sets, int from, int taken) {
        int most = 0;
        for (int i = from; i < sets.size(); i++) {
            if ((sets.get(i) & taken) == 0) most = Math.max(most, 1 + mostApart(sets, i + 1, taken | sets.get(i)));
        }
        return most;
    }

    int ways(int a, int b, int what) {
        if (!in(a, 0, 9) || !in(b, 0, 9) || a == b || !in(what, 0, 1)) return NONE;
        boolean[][] beside = new boolean[10][10];
        for (int[] s : w.streets) beside[s[0]][s[1]] = true;
        List<Integer> found = new ArrayList<>();
        paths(beside, a, b, 1 << a, found);
        int fewest = NONE;
        TreeSet<Integer> inner = new TreeSet<>();
        for (int used : found) {
            int streets = Integer.bitCount(used);
            if (fewest == NONE || streets < fewest) fewest = streets;
            inner.add(used & ~(1 << a));
        }
        return what == 1 ? fewest : mostApart(new ArrayList<>(inner), 0, 0);
    }

    int kin(int a, int b) {
        if (!isWoman(a) || !isWoman(b)) return NONE;
        int[] far = new int[12];
        Arrays.fill(far, 999);
        far[a] = 0;
        for (int round = 0; round < 12; round++) {
            for (int i = 0; i < w.women.size(); i++) {
                for (int s : sistersOf(i)) far[i] = Math.min(far[i], far[s] + 1);
            }
        }
        return far[b] >= 999 ? NONE : far[b];
    }

    int groups(int what) {
        TreeSet<Integer> sets = new TreeSet<>();
        int greatest = 0;
        for (int i = 0; i < w.women.size(); i++) {
            int group = 0;
            for (int j = 0; j < w.women.size(); j++) if (kin(i, j) != NONE) group += 1 << j;
            sets.add(group);
            if (Integer.bitCount(group) > Integer.bitCount(greatest)) greatest = group;
        }
        return what == 0 ? sets.size() : what == 1 ? greatest : NONE;
    }

    int step(int v) {
        if (v == NONE) {
            w.steps.clear();
            return 0;
        }
        if (!in(v, 0, 99) || w.steps.size() == 12) return NONE;
        w.steps.add(v);
        return w.steps.size();
    }

    int alike(int d, int what) {
        if (!in(d, 0, 99) || !in(what, 0, 1)) return NONE;
        int most = 0;
        int couples = 0;
        for (int m = 0; m < 1 << w.steps.size(); m++) {
            int low = 1000;
            int high = -1000;
            for (int i = 0; i < w.steps.size(); i++) {
                if ((m >> i & 1) == 1) {
                    low = Math.min(low, w.steps.get(i));
                    high = Math.max(high, w.steps.get(i));
                }
            }
            if (high - low <= d) {
                most = Math.max(most, Integer.bitCount(m));
                if (Integer.bitCount(m) == 2) couples++;
            }
        }
        return what == 0 ? most : couples;
    }

    boolean carriage(int i, int minutes, int from) {
        if (!in(i, 0, 2) || !in(minutes, 1, 30) || !in(from, 0, 30)) return false;
        w.carriages[i] = new int[] {minutes, from};
        return true;
    }

    int down(int what) {
        int best = NONE;
        int first = 99999;
        for (int order : new int[] {12, 21, 102, 120, 201, 210}) {
            int clock = 0;
            for (int i : new int[] {order / 100, order / 10 % 10, order % 10}) {
                while (clock < w.carriages[i][1]) clock++;
                clock += w.carriages[i][0];
            }
            if (clock < first) {
                first = clock;
                best = order;
            }
        }
        return what == 0 ? best : what == 1 ? first : NONE;
    }

    int offer(int v) {
        if (v == NONE) {
            w.offers.clear();
            return 0;
        }
        if (!in(v, 0, 99) || w.offers.size() == 7) return NONE;
        w.offers.add(v);
        return w.offers.size();
    }

    static void orders(List<Integer> left, List<Integer> order, List<List<Integer>> all) {
        if (left.isEmpty()) all.add(new ArrayList<>(order));
        for (int i = 0; i < left.size(); i++) {
            List<Integer> rest = new ArrayList<>(left);
            order.add(rest.remove(i));
            orders(rest, order, all);
            order.remove(order.size() - 1);
        }
    }

    int stop(int what) {
        if (w.offers.isEmpty() || !in(what, 0, 1)) return NONE;
        List<List<Integer>> all = new ArrayList<>();
        orders(w.offers, new ArrayList<>(), all);
        int n = w.offers.size();
        int best = NONE;
        int most = NONE;
        for (int k = 0; k < n; k++) {
            int good = 0;
            for (List<Integer> order : all) {
                int bar = NONE;
                int greatest = NONE;
                for (int i = 0; i < n; i++) {
                    greatest = Math.max(greatest, order.get(i));
                    if (i < k) bar = Math.max(bar, order.get(i));
                }
                int taken = order.get(n - 1);
                for (int i = k; i < n; i++) {
                    if (order.get(i) > bar) {
                        taken = order.get(i);
                        break;
                    }
                }
                if (taken == greatest) good++;
            }
            if (good > most) {
                most = good;
                best = k;
            }
        }
        return what == 0 ? best : most;
    }

    private static final Map<List<Integer>, Boolean> WINS = new HashMap<>();

    /** Whether who is to take wins, by trying all; heaps are sorted. */
    static boolean wins(List<Integer> heaps) {
        List<Integer> sorted = new ArrayList<>(heaps);
        sorted.removeIf(h -> h == 0);
        sorted.sort(null);
        if (sorted.isEmpty()) return true;
        Boolean known = WINS.get(sorted);
        if (known != null) return known;
        boolean good = false;
        for (int i = 0; i < sorted.size() && !good; i++) {
            for (int n = 1; n <= 3 && n <= sorted.get(i) && !good; n++) {
                List<Integer> next = new ArrayList<>(sorted);
                next.set(i, sorted.get(i) - n);
                good = !wins(next);
            }
        }
        WINS.put(sorted, good);
        return good;
    }

    int game(int what) {
        if (!in(what, 0, 1)) return NONE;
        List<Integer> heaps = new ArrayList<>();
        for (Groom g : w.grooms) heaps.add(g.children);
        for (int i = 0; i < heaps.size(); i++) {
            for (int n = 1; n <= 3 && n <= heaps.get(i); n++) {
                List<Integer> next = new ArrayList<>(heaps);
                next.set(i, heaps.get(i) - n);
                if (!wins(next)) return what == 0 ? i : n;
            }
        }
        return NONE;
    }

    // ---- back

    boolean undo() {
        if (undo.isEmpty()) return false;
        World before = undo.remove(undo.size() - 1);
        World now = w;
        w = before;
        w.law = now.law;
        w.sisters = now.sisters;
        w.men = now.men;
        w.guesses = now.guesses;
        w.bets = now.bets;
        w.streets = now.streets;
        w.steps = now.steps;
        w.offers = now.offers;
        w.carriages = now.carriages;
        return true;
    }

    boolean image(boolean taken) {
        if (taken) {
            image = w.copy();
            return true;
        }
        if (image == null) return false;
        w = image.copy();
        undo.clear();
        return true;
    }
}
