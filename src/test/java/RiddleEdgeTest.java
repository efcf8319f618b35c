import java.util.function.IntSupplier;
import java.util.function.IntUnaryOperator;

/** Promises 23 to 28 (OLD MEN, PLUMES, BETS): each sentence that names an edge, by itself. */
public final class RiddleEdgeTest {
    private static final Check CHECK = new Check("RiddleEdgeTest");

    public static void main(String[] args) {
        men();
        liars();
        noWay();
        guesses();
        rows();
        plumes();
        noneFits();
        bets();
        stakes();
        withoutOdds();
        bestOdds();
        CHECK.close();
    }

    /** That numbers from -1 on and far out are refused but for some. */
    private static void refused(String call, IntUnaryOperator answer, int... but) {
        for (int v : new int[] {-1, 2, 3, 4, 9, 13, 16, 17, 20, 100}) once(call, answer, v, but);
        for (int v : Town.FAR) once(call, answer, v, but);
    }

    private static void once(String call, IntUnaryOperator answer, int v, int... but) {
        for (int b : but) {
            if (v == b) return;
        }
        CHECK.due(call + " of " + v, answer.applyAsInt(v), -1);
    }

    /** Tells until it is full, then once more, clears it and begins again. */
    private static void fill(String call, int most, IntSupplier tell, IntSupplier clear) {
        CHECK.due(call + ": none to clear", clear.getAsInt(), 0);
        for (int round = 0; round < 2; round++) {
            for (int i = 1; i <= most; i++) CHECK.due(call + " " + i, tell.getAsInt(), i);
            CHECK.due(call + ": one more", tell.getAsInt(), -1);
            CHECK.due(call + ": still one more", tell.getAsInt(), -1);
            CHECK.due(call + ": cleared", clear.getAsInt(), 0);
            CHECK.due(call + ": cleared again", clear.getAsInt(), 0);
        }
        CHECK.due(call + ": the first again", tell.getAsInt(), 1);
    }

    private static void men() {
        CHECK.says("P23: (a NONE: none is then): how many; NONE if there are ten");
        VeiledLandaus x = new VeiledLandaus();
        fill("man", 10, () -> x.man(1, 0, true), () -> x.man(-1, 0, false));
        CHECK.due("cleared, whatever b is", x.man(-1, 99, true), 0);
        CHECK.due("none said", x.liars(0), 64);
        CHECK.says("OLD MEN, up to 10 told: the tenth counts, the eleventh does not");
        for (int i = 0; i < 9; i++) x.man(0, 1, true);
        CHECK.due("nine alike", x.liars(0), 32);
        CHECK.due("the tenth", x.man(2, 3, true), 10);
        CHECK.due("ten", x.liars(0), 16);
        CHECK.due("the eleventh", x.man(4, 4, true), -1);
        CHECK.due("ten", x.liars(0), 16);

        CHECK.says("P23: NONE if one can't be (0 .. 5)");
        VeiledLandaus y = new VeiledLandaus();
        y.man(0, 1, true);
        String before = Sight.of(y);
        for (int v : new int[] {6, 7, 10}) notMan(y, v);
        for (int v : Town.FAR) notMan(y, v);
        CHECK.due("b NONE is no clearing", y.man(0, -1, true), -1);
        CHECK.same("refused", Sight.of(y), before);
        CHECK.due("a 0", y.man(0, 5, false), 2);
        CHECK.due("a 5", y.man(5, 0, false), 3);
        CHECK.due("of himself", y.man(5, 5, false), 4);
        CHECK.due("0 of himself", y.man(0, 0, false), 5);
    }

    private static void notMan(VeiledLandaus y, int v) {
        CHECK.due("man(" + v + ", 1, ..)", y.man(v, 1, true), -1);
        CHECK.due("man(1, " + v + ", ..)", y.man(1, v, false), -1);
    }

    private static void liars() {
        CHECK.says("P24: NONE for another what");
        VeiledLandaus x = new VeiledLandaus();
        x.man(0, 1, true);
        refused("liars", x::liars);
        for (int what = 2; what < 10; what++) CHECK.due("liars(" + what + ")", x.liars(what), -1);
        for (int what = 16; what < 80; what++) CHECK.due("liars(" + what + ")", x.liars(what), -1);

        CHECK.says("LIARS: in how many ways; the fewest liars of one; none told");
        x = new VeiledLandaus();
        CHECK.due("ways", x.liars(0), 64);
        CHECK.due("fewest", x.liars(1), 0);
        for (int a = 0; a < 6; a++) CHECK.due("SURE " + a, x.liars(10 + a), -1);

        CHECK.says("man a says of man b that he always lies (or not). MEN lie always or never");
        for (int a = 0; a < 6; a++) {
            for (int b = 0; b < 6; b++) {
                x.man(-1, 0, false);
                x.man(a, b, false);
                CHECK.due(a + " of " + b + ", not: ways", x.liars(0), a == b ? 64 : 32);
                CHECK.due(a + " of " + b + ", not: fewest", x.liars(1), 0);
                x.man(-1, 0, false);
                x.man(a, b, true);
                CHECK.due(a + " of " + b + ", lies: ways", x.liars(0), a == b ? 0 : 32);
                CHECK.due(a + " of " + b + ", lies: fewest", x.liars(1), a == b ? -1 : 1);
            }
        }
        x = new VeiledLandaus();
        int[] fewest = {1, 2, 3};
        for (int i = 0; i < 3; i++) {
            x.man(2 * i, 2 * i + 1, true);
            CHECK.due("couples: ways", x.liars(0), 64 >> i + 1);
            CHECK.due("couples: fewest", x.liars(1), fewest[i]);
        }
        x.man(1, 2, false);
        x.man(3, 4, false);
        CHECK.due("two ways are left", x.liars(0), 2);
        CHECK.due("three in either", x.liars(1), 3);
        CHECK.says("man a is SURE to lie: 1, not to: 0, else NONE");
        for (int a = 0; a < 6; a++) CHECK.due("either way, " + a, x.liars(10 + a), -1);
        x.man(-1, 0, false);
        for (int i = 1; i < 6; i++) x.man(0, i, true);
        CHECK.due("0 lies, or all others", x.liars(0), 2);
        CHECK.due("fewest", x.liars(1), 1);
    }

    private static void noWay() {
        CHECK.says("P24: NONE if there is no way (1, 10 + a)");
        VeiledLandaus x = new VeiledLandaus();
        x.man(3, 3, true);
        CHECK.due("ways", x.liars(0), 0);
        for (int what : new int[] {1, 10, 11, 12, 13, 14, 15}) CHECK.due("liars(" + what + ")", x.liars(what), -1);
        refused("liars", x::liars);
        x.man(-1, 0, true);
        x.man(0, 1, true);
        x.man(1, 2, true);
        CHECK.due("two of them", x.liars(0), 16);
        x.man(2, 0, true);
        CHECK.due("three in a ring", x.liars(0), 0);
        CHECK.due("fewest", x.liars(1), -1);
        x.man(-1, 0, true);
        x.man(0, 1, true);
        x.man(1, 0, false);
        CHECK.due("said and denied", x.liars(0), 0);
        x.man(-1, 0, true);
        CHECK.due("cleared", x.liars(0), 64);
    }

    private static void guesses() {
        CHECK.says("P25: (row NONE: none is then): how many; NONE if there are eight");
        VeiledLandaus x = new VeiledLandaus();
        fill("guess", 8, () -> x.guess(0, 0, 0), () -> x.guess(-1, 0, 0));
        CHECK.due("cleared, whatever the others are", x.guess(-1, 9, -9), 0);
        CHECK.due("none told", x.plumes(0), 216);
        CHECK.says("GUESSES, up to 8 told: the eighth counts, the ninth does not");
        for (int i = 0; i < 7; i++) x.guess(0, 0, 0);
        CHECK.due("seven alike", x.plumes(0), 125);
        CHECK.due("the eighth", x.guess(111, 0, 0), 8);
        CHECK.due("eight", x.plumes(0), 64);
        CHECK.due("the ninth", x.guess(222, 0, 0), -1);
        CHECK.due("eight", x.plumes(0), 64);
        CHECK.due("cleared", x.guess(-1, 0, 0), 0);
        CHECK.due("none told", x.plumes(0), 216);

        CHECK.says("P25: NONE if one can't be (together above 3)");
        VeiledLandaus y = new VeiledLandaus();
        y.guess(123, 1, 1);
        String before = Sight.of(y);
        for (int right = -1; right <= 4; right++) {
            for (int elsewhere = -1; elsewhere <= 4; elsewhere++) {
                boolean can = right >= 0 && elsewhere >= 0 && right + elsewhere <= 3;
                if (!can) CHECK.due("guess(12, " + right + ", " + elsewhere + ")", y.guess(12, right, elsewhere), -1);
            }
        }
        for (int v : Town.FAR) {
            CHECK.due("guess(12, " + v + ", 0)", y.guess(12, v, 0), -1);
            CHECK.due("guess(12, 0, " + v + ")", y.guess(12, 0, v), -1);
            CHECK.due("guess(12, 3, " + v + ")", y.guess(12, 3, v), -1);
        }
        CHECK.due("both wrap together", y.guess(12, Integer.MAX_VALUE, Integer.MAX_VALUE), -1);
        CHECK.due("both wrap together", y.guess(12, Integer.MIN_VALUE, Integer.MIN_VALUE), -1);
        CHECK.due("one makes good the other", y.guess(12, 5, -3), -1);
        CHECK.due("one makes good the other", y.guess(12, -1, 4), -1);
        CHECK.same("refused", Sight.of(y), before);
        int told = 1;
        for (int[] p : new int[][] {{0, 0}, {0, 3}, {3, 0}, {1, 2}, {2, 1}, {2, 0}, {0, 2}}) {
            told++;
            CHECK.due("guess(12, " + p[0] + ", " + p[1] + ")", y.guess(12, p[0], p[1]), told);
        }
    }

    private static void rows() {
        CHECK.says("P25: (three digits 0 .. 5, a leading 0 is plume 0)");
        VeiledLandaus x = new VeiledLandaus();
        int calls = 0;
        for (int row = -3; row <= 700; row++) {
            if (calls % 500 == 0) x = new VeiledLandaus();
            boolean can = row >= 0 && row % 10 <= 5 && row / 10 % 10 <= 5 && row / 100 <= 5;
            if (row != -1) CHECK.due("guess(" + row + ", 0, 0)", x.guess(row, 0, 0), can ? 1 : -1);
            CHECK.due("cleared", x.guess(-1, 0, 0), 0);
            calls += 2;
        }
        for (int row : Town.FAR) {
            boolean can = row >= 0 && row <= 555 && row % 10 <= 5 && row / 10 % 10 <= 5;
            CHECK.due("guess(" + row + ", 0, 0)", new VeiledLandaus().guess(row, 0, 0), can ? 1 : -1);
        }
        for (int row : new int[] {999, 1000, 1555, 5550, 10000}) CHECK.due("guess(" + row + ")", x.guess(row, 0, 0), -1);
        int[] whole = {0, 5, 50, 55, 100, 500, 505, 550, 555, 12, 345};
        for (int row : whole) {
            VeiledLandaus y = new VeiledLandaus();
            y.guess(row, 3, 0);
            CHECK.due(row + " is right: FITS", y.plumes(0), 1);
            CHECK.due(row + " is right: the least", y.plumes(1), row);
        }
    }

    private static int fits(int row, int right, int elsewhere) {
        VeiledLandaus x = new VeiledLandaus();
        CHECK.due("told", x.guess(row, right, elsewhere), 1);
        return x.plumes(0);
    }

    private static void plumes() {
        CHECK.says("P26: NONE for another what");
        VeiledLandaus x = new VeiledLandaus();
        refused("plumes", x::plumes, 2);
        CHECK.due("FITS, none told", x.plumes(0), 216);
        CHECK.due("the least, none told", x.plumes(1), 0);
        CHECK.says("(each plume of either row counts once)");
        CHECK.due("000: none", fits(0, 0, 0), 125);
        CHECK.due("000: one right", fits(0, 1, 0), 75);
        CHECK.due("000: two right", fits(0, 2, 0), 15);
        CHECK.due("000: all right", fits(0, 3, 0), 1);
        CHECK.due("000: one elsewhere", fits(0, 0, 1), 0);
        CHECK.due("000: two right, one elsewhere", fits(0, 2, 1), 0);
        CHECK.due("012: all elsewhere", fits(12, 0, 3), 2);
        CHECK.due("012: one right, two elsewhere", fits(12, 1, 2), 3);
        CHECK.due("012: two right, one elsewhere", fits(12, 2, 1), 0);
        CHECK.due("001: one right, two elsewhere", fits(1, 1, 2), 2);
        CHECK.due("001: all elsewhere", fits(1, 0, 3), 0);
        CHECK.due("012: none", fits(12, 0, 0), 27);
        CHECK.due("all that is told of 012 together", fits(12, 0, 0) + fits(12, 0, 1) + fits(12, 0, 2) + fits(12, 0, 3)
            + fits(12, 1, 0) + fits(12, 1, 1) + fits(12, 1, 2) + fits(12, 2, 0) + fits(12, 3, 0), 216);
        CHECK.due("all that is told of 001 together", fits(1, 0, 0) + fits(1, 0, 1) + fits(1, 0, 2)
            + fits(1, 1, 0) + fits(1, 1, 1) + fits(1, 1, 2) + fits(1, 2, 0) + fits(1, 3, 0), 216);
        CHECK.says("NEXT: the row (of all 216), of several the least");
        x.guess(12, 0, 3);
        CHECK.due("120 and 201: the least", x.plumes(1), 120);
        CHECK.due("000 parts them not, 001 does, and can't be itself", x.plumes(2), 1);
        x.guess(-1, 0, 0);
        x.guess(543, 3, 0);
        CHECK.due("one fits: the least of all rows", x.plumes(2), 0);
        x.guess(-1, 0, 0);
        x.guess(555, 2, 0);
        // 055 .. 455, 505 .. 545, 550 .. 554
        CHECK.due("fifteen fit", x.plumes(0), 15);
        CHECK.due("the least of them", x.plumes(1), 55);
        CHECK.due("none told, NEXT is as the first time", new VeiledLandaus().plumes(2), nextAtFirst());
    }

    /** NEXT of none told, tried in all ways. */
    private static int nextAtFirst() {
        int best = -1;
        int least = 217;
        for (int row = 0; row < 216; row++) {
            int[] classes = new int[16];
            int greatest = 0;
            for (int can = 0; can < 216; can++) greatest = Math.max(greatest, ++classes[told(row, can)]);
            if (greatest < least) {
                least = greatest;
                best = row / 36 * 100 + row / 6 % 6 * 10 + row % 6;
            }
        }
        return best;
    }

    private static int told(int a, int b) {
        int[] p = {a / 36, a / 6 % 6, a % 6};
        int[] q = {b / 36, b / 6 % 6, b % 6};
        int right = 0;
        int shared = 0;
        for (int i = 0; i < 3; i++) right += p[i] == q[i] ? 1 : 0;
        boolean[] used = new boolean[3];
        for (int plume : p) {
            for (int i = 0; i < 3; i++) {
                if (q[i] == plume && !used[i]) {
                    used[i] = true;
                    shared++;
                    break;
                }
            }
        }
        return 4 * right + shared - right;
    }

    private static void noneFits() {
        CHECK.says("P26: NONE if none fits (1, 2)");
        VeiledLandaus x = new VeiledLandaus();
        x.guess(0, 0, 1);
        CHECK.due("FITS", x.plumes(0), 0);
        CHECK.due("the least", x.plumes(1), -1);
        CHECK.due("NEXT", x.plumes(2), -1);
        refused("plumes", x::plumes);
        x.guess(-1, 0, 0);
        CHECK.due("cleared: FITS", x.plumes(0), 216);
        CHECK.due("cleared: NEXT", x.plumes(2), nextAtFirst());
        x.guess(555, 3, 0);
        CHECK.due("one", x.plumes(1), 555);
        x.guess(555, 0, 0);
        CHECK.due("told otherwise: FITS", x.plumes(0), 0);
        CHECK.due("told otherwise: NEXT", x.plumes(2), -1);
    }

    private static void bets() {
        CHECK.says("P27: (landau NONE: none is then): how many; NONE if there are six");
        VeiledLandaus x = new VeiledLandaus();
        fill("bet", 6, () -> x.bet(1, 300), () -> x.bet(-1, 300));
        CHECK.due("cleared, whatever v is", x.bet(-1, 0), 0);
        CHECK.says("BETS: up to 6 told odds: the sixth counts, the seventh does not");
        for (int i = 0; i < 4; i++) x.bet(0, 300);
        x.bet(1, 300);
        CHECK.due("landau 2 without odds", x.safe(9, 0), 0);
        CHECK.due("the sixth", x.bet(2, 300), 6);
        CHECK.due("all have", x.safe(9, 0), 9);
        CHECK.due("the seventh", x.bet(2, 600), -1);
        CHECK.due("its stake as before", x.safe(9, 12), 3);
        CHECK.says("P27: NONE if one can't be (landau 0 .. 2, v 101 .. 9999)");
        VeiledLandaus y = new VeiledLandaus();
        y.bet(0, 300);
        y.bet(1, 300);
        y.bet(2, 300);
        String before = Sight.of(y);
        for (int v : new int[] {-1, 0, 1, 99, 100, 10000, 10001}) CHECK.due("bet(0, " + v + ")", y.bet(0, v), -1);
        for (int v : Town.FAR) {
            CHECK.due("bet(" + v + ", 200)", y.bet(v, 200), -1);
            if (v < 101 || v > 9999) CHECK.due("bet(1, " + v + ")", y.bet(1, v), -1);
        }
        CHECK.due("bet(3, 200)", y.bet(3, 200), -1);
        CHECK.due("bet(4, 200)", y.bet(4, 200), -1);
        CHECK.same("refused", Sight.of(y), before);
        CHECK.due("101", y.bet(0, 101), 4);
        CHECK.due("9999", y.bet(2, 9999), 5);
        CHECK.due("256", y.bet(1, 256), 6);
    }

    private static void stakes() {
        CHECK.says("P28: NONE if n can't be (3 .. 300), or another what");
        VeiledLandaus x = new VeiledLandaus();
        for (int i = 0; i < 3; i++) x.bet(i, 300);
        for (int n : new int[] {-1, 0, 1, 2, 301, 302}) {
            for (int what : new int[] {0, 10, 11, 12}) CHECK.due("safe(" + n + ", " + what + ")", x.safe(n, what), -1);
        }
        for (int n : Town.FAR) {
            if (n < 3 || n > 300) CHECK.due("safe(" + n + ", 0)", x.safe(n, 0), -1);
        }
        refused("safe(30, what)", what -> x.safe(30, what));
        CHECK.due("safe(30, 1)", x.safe(30, 1), -1);
        CHECK.says("SAFE of n (3 .. 300): whole stakes, n together");
        tried(3, 300, 300, 300);
        tried(4, 300, 300, 300);
        tried(5, 300, 300, 300);
        tried(300, 300, 300, 300);
        CHECK.says("v (101 .. 9999 of a hundred), downwards");
        for (int n : new int[] {3, 4, 5, 99, 100, 299, 300}) {
            tried(n, 101, 101, 101);
            tried(n, 9999, 9999, 9999);
            tried(n, 101, 101, 9999);
            tried(n, 9999, 101, 101);
            tried(n, 101, 9999, 101);
            tried(n, 9999, 9999, 101);
            tried(n, 150, 199, 250);
            tried(n, 199, 200, 201);
        }
        CHECK.says("(of several ways the first: landau 0 fewest, then 1)");
        CHECK.due("four, landau 0", x.safe(4, 10), 1);
        CHECK.due("four, landau 1", x.safe(4, 11), 1);
        CHECK.due("four, landau 2", x.safe(4, 12), 2);
        CHECK.due("five, landau 2", x.safe(5, 12), 3);
    }

    /** Held against all ways of three stakes. */
    private static void tried(int n, int first, int second, int third) {
        VeiledLandaus x = new VeiledLandaus();
        x.bet(0, first);
        x.bet(1, second);
        x.bet(2, third);
        int best = -1;
        int[] way = new int[3];
        for (int a = 0; a <= n; a++) {
            for (int b = 0; a + b <= n; b++) {
                int c = n - a - b;
                int back = Math.min(a * first / 100, Math.min(b * second / 100, c * third / 100));
                if (back > best) {
                    best = back;
                    way = new int[] {a, b, c};
                }
            }
        }
        String of = n + " at " + first + ", " + second + ", " + third;
        CHECK.due(of, x.safe(n, 0), best);
        for (int i = 0; i < 3; i++) CHECK.due(of + ", landau " + i, x.safe(n, 10 + i), way[i]);
    }

    private static void withoutOdds() {
        CHECK.says("(A landau without odds: nothing comes back.)");
        for (int told = 0; told < 7; told++) {
            VeiledLandaus x = new VeiledLandaus();
            for (int i = 0; i < 3; i++) {
                if ((told >> i & 1) != 0) x.bet(i, 9999);
            }
            for (int n : new int[] {3, 300}) {
                CHECK.due("what comes back", x.safe(n, 0), 0);
                CHECK.due("landau 0 fewest", x.safe(n, 10), 0);
                CHECK.due("then 1", x.safe(n, 11), 0);
                CHECK.due("all on 2", x.safe(n, 12), n);
            }
            CHECK.due("another what", x.safe(3, 13), -1);
            CHECK.due("n can't be", x.safe(2, 12), -1);
        }
    }

    private static void bestOdds() {
        CHECK.says("(by the best odds told for it)");
        VeiledLandaus x = new VeiledLandaus();
        x.bet(0, 200);
        x.bet(0, 400);
        x.bet(0, 300);
        x.bet(1, 400);
        x.bet(2, 101);
        x.bet(2, 400);
        CHECK.due("what comes back", x.safe(6, 0), 8);
        for (int i = 0; i < 3; i++) CHECK.due("landau " + i, x.safe(6, 10 + i), 2);
        x.bet(-1, 0);
        CHECK.due("none is then", x.safe(6, 0), 0);
    }
}
