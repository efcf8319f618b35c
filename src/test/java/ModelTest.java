import java.util.Random;

/** Runs by chance, always the same ones, of the class and of the Model: each answer is held against the other. */
public final class ModelTest {
    private final Check check;
    private final Random r;
    private final Texts texts;
    private final VeiledLandaus x = new VeiledLandaus();
    private final Model m = new Model();
    private int calls;

    private ModelTest(Check check, int seed) {
        this.check = check;
        r = new Random(seed);
        texts = new Texts(r);
    }

    public static void main(String[] args) {
        Check check = new Check("ModelTest");
        for (int seed = 0; seed < 600; seed++) {
            new ModelTest(check, seed).run(seed);
        }
        check.close();
    }

    private void run(int seed) {
        if (seed % 5 != 0) {
            int women = 3 + r.nextInt(9);
            for (int i = 0; i < women; i++) woman();
            for (int i = r.nextInt(7); i >= 0; i--) groom();
            tell(1);
        }
        if (seed % 7 == 0) wide();
        if (seed % 3 == 0) riddlesAlone();
        while (calls < 480) any(r.nextInt(60));
    }

    private void due(String call, int got, int want) {
        calls++;
        check.due(call, got, want);
    }

    private void due(String call, boolean got, boolean want) {
        calls++;
        check.due(call, got, want);
    }

    /** Mostly within 0 .. n - 1, sometimes just outside, seldom far. */
    private int near(int n) {
        int k = r.nextInt(40);
        if (k == 0) return -1;
        if (k == 1) return n;
        if (k == 2) return r.nextBoolean() ? Integer.MAX_VALUE : Integer.MIN_VALUE;
        return r.nextInt(Math.max(1, n));
    }

    private int aWoman() {
        return near(m.w.women.size());
    }

    private int aGroom() {
        return near(m.w.grooms.size());
    }

    /** Long runs of years, up to the last one. */
    private void wide() {
        for (int i = 0; i < 170; i++) years(60);
        for (int i = 0; i < 12; i++) years(1 + r.nextInt(20));
    }

    /** One kind of riddle after another: told, often to the most, then asked. */
    private void riddlesAlone() {
        int[] kinds = {36, 38, 36, 39, 40, 41, 42, 43, 44, 46, 47, 48, 49, 49, 50, 51};
        int k = 2 * r.nextInt(kinds.length / 2);
        while (calls < 200) {
            for (int i = r.nextInt(8); i > 0; i--) riddleAny(kinds[k]);
            for (int i = r.nextInt(4); i > 0; i--) riddleAny(kinds[k + 1]);
            if (r.nextInt(6) == 0) k = 2 * r.nextInt(kinds.length / 2);
        }
    }

    private void woman() {
        int a = near(10);
        int b = near(10);
        int c = near(10);
        due("woman", x.woman(a, b, c), m.woman(a, b, c));
    }

    private void groom() {
        int a = near(10);
        int b = aWoman();
        due("groom", x.groom(a, b), m.groom(a, b));
    }

    private void years(int n) {
        due("years(" + n + ")", x.years(n), m.years(n));
    }

    private void tell(int k) {
        String s = texts.text(k);
        Check.lay(x, s);
        m.tape = s;
        calls += s.length() / 20 + 3;
        due("text(" + k + ") of '" + s + "'", x.text(k), m.text(k));
        due("fault(0) of '" + s + "'", x.fault(0), m.fault(0));
        due("fault(1) of '" + s + "'", x.fault(1), m.fault(1));
    }

    private void any(int k) {
        if (k < 20) {
            tellAny(k);
        } else if (k < 36) {
            thinkAny(k);
        } else if (k < 52) {
            riddleAny(k);
        } else {
            lookAll();
        }
    }

    private void tellAny(int k) {
        int a = aWoman();
        int g = aGroom();
        boolean flag = r.nextInt(4) != 0;
        switch (k) {
            case 0: woman(); break;
            case 1: groom(); break;
            case 2:
                int v = r.nextInt();
                due("state", x.state(v), m.state(v));
                break;
            case 3:
            case 4:
                int what = near(6);
                int who = what < 3 ? a : g;
                int to = what == 5 ? r.nextInt(203) - 101 : what == 4 ? aWoman() : near(10);
                due("set(" + what + ")", x.set(what, who, to), m.set(what, who, to));
                break;
            case 5:
            case 6:
            case 7:
                int b = aWoman();
                int c = aWoman();
                due("wed", x.wed(g, a, b, c), m.wed(g, a, b, c));
                break;
            case 8: due("part", x.part(g), m.part(g)); break;
            case 9:
            case 10: due("cough", x.cough(a, flag), m.cough(a, flag)); break;
            case 11:
            case 12: years(near(r.nextInt(4) == 0 ? 61 : 5)); break;
            case 13:
                int fed = r.nextInt();
                due("feed", x.feed(fed, ~fed, fed * 31, 0, -1), m.feed(fed, ~fed, fed * 31, 0, -1));
                int n = near(m.tape.length() + 1);
                due("end", x.end(n), m.end(n));
                break;
            case 14:
                int kind = near(4);
                due("text", x.text(kind), m.text(kind));
                break;
            case 15:
            case 16:
            case 17: tell(r.nextInt(4)); break;
            case 18:
                if (r.nextInt(3) == 0) due("image", x.image(flag), m.image(flag));
                break;
            default: due("undo", x.undo(), m.undo()); break;
        }
    }

    private void thinkAny(int k) {
        int a = aWoman();
        int b = aWoman();
        int c = aWoman();
        int g = aGroom();
        int q = near(m.w.questions.size());
        int landau = near(3);
        int what = near(2);
        boolean said = r.nextBoolean();
        switch (k) {
            case 20: due("yes", x.yes(g, a, q, landau), m.yes(g, a, q, landau)); break;
            case 21: due("counts", x.counts(g, a, q, landau, said), m.counts(g, a, q, landau, said)); break;
            case 22:
            case 23: due("would", x.would(g, a, b, c, what), m.would(g, a, b, c, what)); break;
            case 24:
            case 25:
                int n = near(r.nextBoolean() ? 61 : 5);
                int of = near(4);
                due("goes(" + n + ", " + of + ")", x.goes(n, of), m.goes(n, of));
                break;
            case 26:
            case 27: due("tells", x.tells(g, a, b, c, what), m.tells(g, a, b, c, what)); break;
            case 28:
            case 29: due("sent", x.sent(g, what), m.sent(g, what)); break;
            case 30: due("kin", x.kin(a, b), m.kin(a, b)); break;
            case 31: due("groups", x.groups(what), m.groups(what)); break;
            case 32: due("of", x.of(a, landau + 3), m.of(a, landau + 3)); break;
            case 33: due("who", x.who(g, 10 + a), m.who(g, 10 + a)); break;
            case 34: game(what); break;
            default:
                int line = near(m.w.book.size());
                int column = near(4);
                due("book", x.book(line, column), m.book(line, column));
                break;
        }
    }

    private void game(int what) {
        double size = 1;
        for (Model.Groom g : m.w.grooms) size *= g.children + 1;
        if (size < 3000) due("game", x.game(what), m.game(what));
    }

    private void riddleAny(int k) {
        int what = near(3);
        switch (k) {
            case 36:
            case 37:
                int a = near(6);
                int b = near(6);
                boolean lies = r.nextBoolean();
                due("man", x.man(a, b, lies), m.man(a, b, lies));
                break;
            case 38: due("liars(0)", x.liars(what), m.liars(what)); break;
            case 39:
                int sure = 9 + r.nextInt(8);
                due("liars(" + sure + ")", x.liars(sure), m.liars(sure));
                break;
            case 40: guess(); break;
            case 41: due("plumes(" + what + ")", x.plumes(what), m.plumes(what)); break;
            case 42:
                int landau = near(3);
                int v = r.nextInt(9) == 0 ? 99 + r.nextInt(4) : 101 + r.nextInt(r.nextBoolean() ? 600 : 9900);
                due("bet", x.bet(landau, v), m.bet(landau, v));
                break;
            case 43:
                int n = 2 + near(300);
                int of = r.nextInt(4) == 0 ? near(14) : 9 + near(5);
                due("safe(" + n + ", " + of + ")", x.safe(n, of), m.safe(n, of));
                break;
            case 44:
            case 45:
                int from = near(10);
                int to = near(r.nextBoolean() ? 10 : 4);
                due("street", x.street(from, to), m.street(from, to));
                break;
            case 46:
                int p = near(10);
                int s = near(10);
                due("ways", x.ways(p, s, what), m.ways(p, s, what));
                break;
            case 47:
                int t = near(r.nextBoolean() ? 100 : 30);
                due("step", x.step(t), m.step(t));
                break;
            case 48:
                int d = near(r.nextBoolean() ? 100 : 12);
                due("alike", x.alike(d, what), m.alike(d, what));
                break;
            case 49:
                int i = near(3);
                int minutes = near(31);
                int setsOff = near(31);
                due("carriage", x.carriage(i, minutes, setsOff), m.carriage(i, minutes, setsOff));
                due("down", x.down(what), m.down(what));
                break;
            case 50:
                int o = near(r.nextBoolean() ? 100 : 4);
                due("offer", x.offer(o), m.offer(o));
                break;
            default: due("stop", x.stop(what), m.stop(what)); break;
        }
    }

    private void guess() {
        int row = r.nextInt(6) * 100 + r.nextInt(6) * 10 + r.nextInt(6);
        if (r.nextInt(8) == 0) row = near(1000);
        int right = r.nextInt(3);
        int elsewhere = r.nextInt(3);
        if (r.nextInt(10) == 0) right = near(4);
        if (r.nextInt(10) == 0) elsewhere = near(4);
        due("guess", x.guess(row, right, elsewhere), m.guess(row, right, elsewhere));
    }

    private void lookAll() {
        for (int i = 0; i < 13; i++) due("look(" + i + ")", x.look(i), m.look(i));
        int a = aWoman();
        int g = aGroom();
        for (int i = 0; i < 6; i++) {
            due("of(" + i + ")", x.of(a, i), m.of(a, i));
            due("who(" + i + ")", x.who(g, i), m.who(g, i));
        }
        int line = m.w.book.size() - 1 - r.nextInt(3);
        for (int i = 0; i < 4; i++) due("book(" + i + ")", x.book(line, i), m.book(line, i));
    }
}
