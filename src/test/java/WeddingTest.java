/** Promises 6, 7, 9 and 18: weddings, partings, years and THE BOOK. */
public final class WeddingTest {
    private static final Check CHECK = new Check("WeddingTest");

    public static void main(String[] args) {
        byDraws();
        justBelow();
        whomHeTakes();
        coughsAtTheRail();
        whoCannotWed();
        partings();
        linesOfYears();
        gladness();
        children();
        yearsWrong();
        fullBook();
        CHECK.close();
    }

    private static VeiledLandaus town(int women, int grooms) {
        VeiledLandaus x = new VeiledLandaus();
        for (int i = 0; i < women; i++) x.woman(i % 10, i % 10, 0);
        for (int i = 0; i < grooms; i++) x.groom(i, i % women);
        return x;
    }

    private static void bookLine(VeiledLandaus x, int i, int year, int what, int who, int much) {
        CHECK.due("P18 book(" + i + ", 0)", x.book(i, 0), year);
        CHECK.due("P18 book(" + i + ", 1)", x.book(i, 1), what);
        CHECK.due("P18 book(" + i + ", 2)", x.book(i, 2), who);
        CHECK.due("P18 book(" + i + ", 3)", x.book(i, 3), much);
    }

    private static void byDraws() {
        VeiledLandaus x = town(5, 1);
        Check.tell(x, 0, "yes 300*place+question; counts 10*said+place;");
        Check.tell(x, 1, "ask 50; ask 99;");
        x.years(3);
        int seed = 123456789;
        x.state(seed);
        long state = seed;
        int[] who = {4, 2, 3};
        int[] numbers = {50, 99};
        int[] points = new int[3];
        int[] said = new int[6];
        for (int q = 0; q < 2; q++) {
            for (int i = 0; i < 3; i++) {
                state = (state * 1664525L + 1013904223L) & 0xffffffffL;
                boolean yes = (state >> 8) % 1000 < 300 * i + numbers[q];
                said[3 * q + i] = yes ? 0 : 1;
                points[i] += (yes ? 10 : 0) + i;
            }
        }
        int best = 0;
        for (int i = 1; i < 3; i++) if (points[i] > points[best]) best = i;
        CHECK.due("P6 wed", x.wed(0, 4, 2, 3), who[best]);
        CHECK.due("P6 state", x.look(7), (int) state);
        for (int i = 0; i < 6; i++) bookLine(x, i, 3, said[i], who[i % 3], numbers[i / 3]);
        bookLine(x, 6, 3, 3, who[best], points[best]);
        CHECK.due("P6 book", x.look(6), 7);
        CHECK.due("P6 wife", x.who(0, 2), who[best]);
        CHECK.due("P6 wed to", x.of(who[best], 3), 0);
        CHECK.due("P6 weds", x.who(0, 5), 1);
        CHECK.due("P6 others stay", x.look(5), 31 - (1 << who[best]));
        CHECK.due("P18 no such line", x.book(7, 0), -10000);
        CHECK.due("P18 no such line", x.book(-1, 0), -10000);
        CHECK.due("P18 another what", x.book(0, 4), -10000);
        CHECK.due("P18 another what", x.book(0, -1), -10000);
    }

    /** A state whose next draw of 1000 is such. */
    private static int stateBefore(int draw) {
        for (int state = 0; state < 10000000; state++) {
            if ((state * 1664525 + 1013904223 >>> 8) % 1000 == draw) return state;
        }
        return -1;
    }

    private static void justBelow() {
        int[][] cases = {{0, 0, 1}, {0, 1, 0}, {563, 563, 1}, {563, 564, 0}, {999, 999, 1}, {999, 1000, 0}};
        for (int[] c : cases) {
            VeiledLandaus x = town(3, 1);
            Check.tell(x, 0, "yes " + c[1] + ";");
            Check.tell(x, 1, "ask 1;");
            x.state(stateBefore(c[0]));
            x.wed(0, 0, 1, 2);
            CHECK.due("P6 draw " + c[0] + ", yes " + c[1], x.book(0, 1), c[2]);
        }
        int[][] glad = {{-99, 0, 0}, {-20, 0, 0}, {-19, 4, 1}, {-19, 5, 0}, {99, 594, 1}, {99, 595, 0}, {0, 99, 1}, {0, 100, 0}};
        for (int[] g : glad) {
            VeiledLandaus x = town(3, 1);
            Check.tell(x, 0, "joy 0;");
            x.wed(0, 0, 1, 2);
            x.set(5, 0, g[0]);
            x.state(stateBefore(g[1]));
            CHECK.due("P9 glad " + g[0] + ", draw " + g[1], x.years(1), g[2]);
        }
    }

    private static void whomHeTakes() {
        VeiledLandaus x = town(6, 3);
        CHECK.due("P6 without questions the first", x.wed(0, 2, 1, 0), 2);
        CHECK.due("P6 no draw", x.look(7), 0);
        CHECK.due("P6 the town wins 1", x.look(3), 1);
        bookLine(x, 0, 0, 3, 2, 0);
        Check.tell(x, 1, "ask 1;");
        Check.tell(x, 0, "counts 5 when place=1; counts 5 when place=2; counts 4;");
        CHECK.due("P6 of several the least landau", x.wed(1, 0, 1, 3), 1);
        CHECK.due("P6 the town loses 3", x.look(3), -2);
        Check.tell(x, 0, "counts 0-place;");
        CHECK.due("P6 most", x.wed(2, 5, 4, 3), 5);
        CHECK.due("P6 the town wins 1", x.look(3), -1);
        bookLine(x, 8, 0, 3, 5, 0);
    }

    private static void coughsAtTheRail() {
        VeiledLandaus x = town(6, 2);
        Check.tell(x, 1, "ask 1;");
        Check.tell(x, 0, "counts 9 when place=0; counts 0; yes 1000;");
        x.cough(0, true);
        x.cough(1, true);
        x.cough(3, true);
        x.cough(5, true);
        CHECK.due("P6 ten points more", x.wed(0, 2, 3, 1), 3);
        CHECK.due("P6 who coughed coughs no more", x.look(4), 33);
        bookLine(x, 3, 0, 2, 3, 1);
        bookLine(x, 4, 0, 2, 1, 2);
        bookLine(x, 5, 0, 3, 3, 10);
        CHECK.due("P6 book", x.look(6), 6);
        CHECK.due("P6 9 and 10 beat 10", x.wed(1, 0, 5, 4), 0);
        bookLine(x, 11, 0, 3, 0, 19);
    }

    private static void whoCannotWed() {
        VeiledLandaus x = town(7, 2);
        CHECK.due("P6 alike", x.wed(0, 1, 1, 2), -1);
        CHECK.due("P6 alike", x.wed(0, 1, 2, 1), -1);
        CHECK.due("P6 alike", x.wed(0, 2, 1, 1), -1);
        CHECK.due("P6 no such groom", x.wed(2, 0, 1, 2), -1);
        CHECK.due("P6 no such groom", x.wed(-1, 0, 1, 2), -1);
        CHECK.due("P6 no such woman", x.wed(0, 7, 1, 2), -1);
        CHECK.due("P6 no such woman", x.wed(0, 0, -1, 2), -1);
        CHECK.due("P6 no such woman", x.wed(0, 0, 1, 7), -1);
        CHECK.due("P6 nothing is done", x.look(12), 0);
        CHECK.due("P6 wed", x.wed(0, 4, 5, 6), 4);
        CHECK.due("P6 has a wife", x.wed(0, 1, 2, 3), -1);
        CHECK.due("P6 a woman is wed", x.wed(1, 4, 2, 3), -1);
        CHECK.due("P6 a woman is wed", x.wed(1, 2, 4, 3), -1);
        CHECK.due("P6 a woman is wed", x.wed(1, 2, 3, 4), -1);
        CHECK.due("P6 not taken are free", x.wed(1, 5, 6, 0), 5);
        CHECK.due("P6 two can be undone", x.look(12), 2);
    }

    private static void partings() {
        VeiledLandaus x = town(4, 2);
        CHECK.due("P7 no wife", x.part(0), false);
        CHECK.due("P7 no such", x.part(2), false);
        CHECK.due("P7 no such", x.part(-1), false);
        x.wed(0, 1, 2, 3);
        x.set(5, 0, -7);
        CHECK.due("P7 part", x.part(0), true);
        CHECK.due("P7 no wife then", x.who(0, 2), -1);
        CHECK.due("P7 she is wed to nobody", x.of(1, 3), -1);
        CHECK.due("P7 glad", x.who(0, 3), 0);
        CHECK.due("P7 weds stay", x.who(0, 5), 1);
        bookLine(x, 1, 0, 5, 0, -7);
        CHECK.due("P7 again", x.part(0), false);
        CHECK.due("P7 undo", x.look(12), 1);
        CHECK.due("P6 he weds again", x.wed(0, 2, 1, 3), 2);
        CHECK.due("P6 weds", x.who(0, 5), 2);
    }

    private static void linesOfYears() {
        VeiledLandaus x = town(6, 2);
        Check.tell(x, 0, "joy 0;");
        CHECK.due("P12 lines", Check.tell(x, 2, "in 1 wed 0 3 4 5; in 0 cough 4; in 0 wed 1 3 4 5; in 0 wed 0 4 2 1;"
            + "in 1 part 1; in 1 wed 1 3 4 5; in 1 cough 5; in 1 cough 5; in 2 part 0; in 2 part 0;"), 10);
        x.years(1);
        CHECK.due("P9 she coughed and is taken", x.who(1, 2), 4);
        CHECK.due("P9 what cannot be done is not", x.who(0, 2), -1);
        CHECK.due("P9 cough", x.look(4), 0);
        x.years(1);
        CHECK.due("P9 when the first line came she was wed", x.who(0, 2), -1);
        CHECK.due("P9 parted and wed again", x.who(1, 2), 3);
        CHECK.due("P9 weds", x.who(1, 5), 2);
        CHECK.due("P9 cough", x.look(4), 32);
        CHECK.due("P9 year", x.look(2), 2);
        bookLine(x, 0, 0, 2, 4, 1);
        bookLine(x, 1, 0, 3, 4, 10);
        bookLine(x, 2, 1, 5, 1, 0);
        bookLine(x, 3, 1, 3, 3, 0);
        x.years(1);
        CHECK.due("P9 nothing to part", x.look(6), 4);
        CHECK.due("P9 a year is undone as one", x.look(12), 3);
        x.undo();
        x.undo();
        CHECK.due("P9 undone", x.who(1, 2), 4);
    }

    private static void gladness() {
        VeiledLandaus x = town(6, 3);
        x.wed(0, 3, 4, 5);
        x.set(5, 0, 95);
        x.set(5, 1, 50);
        Check.tell(x, 0, "joy 3 when year=0; joy glad-90 when year=1; joy 0-20;");
        x.years(1);
        CHECK.due("P9 joy", x.who(0, 3), 98);
        CHECK.due("P9 without a wife", x.who(1, 3), 50);
        x.years(1);
        CHECK.due("P9 held to 99", x.who(0, 3), 99);
        x.years(1);
        CHECK.due("P9 joy", x.who(0, 3), 79);
        x.years(8);
        CHECK.due("P9 joy", x.who(0, 3), -81);
        x.years(1);
        CHECK.due("P9 held to -99", x.who(0, 3), -99);
        CHECK.due("P9 one draw a year", x.look(7), after(0, 12));
    }

    private static int after(int state, int draws) {
        for (int i = 0; i < draws; i++) state = state * 1664525 + 1013904223;
        return state;
    }

    private static void children() {
        VeiledLandaus x = town(6, 2);
        Check.tell(x, 0, "joy 0;");
        x.wed(0, 3, 4, 5);
        x.wed(1, 0, 1, 2);
        x.set(5, 0, 99);
        x.set(5, 1, -20);
        x.state(99);
        int state = 99;
        int came = 0;
        for (int i = 0; i < 20; i++) {
            state = state * 1664525 + 1013904223;
            if ((state >>> 8) % 1000 < 595) came++;
            // the other one draws too, of nought
            state = state * 1664525 + 1013904223;
        }
        CHECK.due("P9 children", x.years(20), came);
        CHECK.due("P9 his", x.who(0, 4), came);
        CHECK.due("P9 none", x.who(1, 4), 0);
        CHECK.due("P9 state", x.look(7), state);
        x.years(60);
        CHECK.due("P9 twenty at most", x.who(0, 4), 20);
        int drawn = x.look(7);
        x.years(1);
        CHECK.due("P9 then he draws no more", x.look(7), after(drawn, 1));
        CHECK.due("P18 a child", x.book(2, 1), 4);
        CHECK.due("P18 whose", x.book(2, 2), 0);
        CHECK.due("P18 the first", x.book(2, 3), 1);
        CHECK.due("P18 the twentieth", x.book(x.look(6) - 1, 3), 20);
    }

    private static void yearsWrong() {
        VeiledLandaus x = town(3, 1);
        CHECK.due("P9 0", x.years(0), -1);
        CHECK.due("P9 61", x.years(61), -1);
        CHECK.due("P9 -1", x.years(-1), -1);
        CHECK.due("P9 overflow", x.years(Integer.MAX_VALUE), -1);
        for (int i = 0; i < 166; i++) x.years(60);
        CHECK.due("P9 year", x.look(2), 9960);
        CHECK.due("P9 above 9999", x.years(40), -1);
        CHECK.due("P9 nothing is done", x.look(2), 9960);
        CHECK.due("P9 up to 9999", x.years(39), 0);
        CHECK.due("P9 year", x.look(2), 9999);
        CHECK.due("P9 no more", x.years(1), -1);
        CHECK.due("P20 thought goes on", x.goes(1, 3), 0);
    }

    private static void fullBook() {
        VeiledLandaus x = town(3, 1);
        Check.tell(x, 1, "ask 1;".repeat(16));
        for (int i = 0; i < 3; i++) {
            x.wed(0, 0, 1, 2);
            x.part(0);
        }
        CHECK.due("P18 150 lines", x.look(6), 150);
        bookLine(x, 48, 0, 3, 0, 16);
        bookLine(x, 49, 0, 5, 0, 0);
        x.wed(0, 0, 1, 2);
        CHECK.due("P18 no more then", x.look(6), 150);
        bookLine(x, 149, 0, 5, 0, 0);
        CHECK.due("P18 none beyond", x.book(150, 0), -10000);
        x.undo();
        x.undo();
        CHECK.due("P40 the book goes back", x.look(6), 149);
        x.undo();
        CHECK.due("P40 the book goes back", x.look(6), 100);
    }
}
