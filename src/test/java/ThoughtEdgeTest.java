/** Promises 19 to 22 and IN THOUGHT: each sentence that names an edge, by itself. */
public final class ThoughtEdgeTest {
    private static final Check CHECK = new Check("ThoughtEdgeTest");
    private static final int NOTHING = -10000;

    public static void main(String[] args) {
        refusedWould();
        likely();
        coughsInThought();
        withoutQuestions();
        landaus();
        wedOrNot();
        refusedGoes();
        yearsInThought();
        childrenInThought();
        linesInThought();
        nothingStays();
        refusedTells();
        furthest();
        refusedSent();
        beside();
        ofSeveral();
        byGroom();
        CHECK.close();
    }

    private static void refusedWould() {
        CHECK.says("P19: NONE - 9999 if one can't be, or another what");
        VeiledLandaus x = Town.sure(4, 2, "", 2);
        x.wed(0, 1, 2, 3);
        String before = Sight.of(x);
        for (int what : new int[] {-1, 2, 3, 10}) CHECK.due("what " + what, x.would(0, 0, 1, 2, what), NOTHING);
        for (int what : Town.FAR) CHECK.due("what " + what, x.would(0, 0, 1, 2, what), NOTHING);
        for (int v : new int[] {-1, 4, 12}) wouldOf(x, v);
        for (int v : Town.FAR) wouldOf(x, v);
        for (int v : new int[] {-1, 2, 8}) CHECK.due("GROOM " + v, x.would(v, 0, 1, 2, 0), NOTHING);
        for (int v : Town.FAR) CHECK.due("GROOM " + v, x.would(v, 0, 1, 2, 1), NOTHING);
        CHECK.same("refused", Sight.of(x), before);
        CHECK.says("P19: three WOMEN, unlike");
        x = Town.sure(4, 2, "", 2);
        for (int a = 0; a < 4; a++) {
            for (int b = 0; b < 4; b++) {
                for (int c = 0; c < 4; c++) {
                    boolean unlike = a != b && b != c && a != c;
                    CHECK.due(a + " " + b + " " + c, x.would(1, a, b, c, 0), unlike ? a : NOTHING);
                    CHECK.due(a + " " + b + " " + c, x.would(1, a, b, c, 1), unlike ? 2 : NOTHING);
                }
            }
        }
        CHECK.due("in an empty church", new VeiledLandaus().would(0, 0, 1, 2, 0), NOTHING);
        CHECK.due("of two WOMEN", Town.of(2, 1).would(0, 0, 1, 2, 0), NOTHING);
    }

    private static void wouldOf(VeiledLandaus x, int v) {
        CHECK.due("WOMAN " + v + " first", x.would(1, v, 1, 2, 0), NOTHING);
        CHECK.due("WOMAN " + v + " second", x.would(1, 0, v, 2, 0), NOTHING);
        CHECK.due("WOMAN " + v + " third", x.would(1, 0, 1, v, 1), NOTHING);
    }

    private static void likely() {
        CHECK.says("IN THOUGHT: she says yes, if yes is 500 at least");
        int[] told = {0, 1, 498, 499, 500, 501, 999, 1000, 9999};
        for (int v : told) {
            VeiledLandaus x = Town.sure(3, 1, "yes " + v + "; counts 10+7*said;", 1);
            CHECK.due("yes " + v, x.would(0, 0, 1, 2, 1), v >= 500 ? 17 : 10);
        }
        CHECK.due("below 0", Town.sure(3, 1, "yes 0-1; counts 10+7*said;", 1).would(0, 0, 1, 2, 1), 10);
        VeiledLandaus x = new VeiledLandaus();
        for (int i = 0; i < 5; i++) x.woman(i, i, 0);
        x.groom(0, 4);
        Check.tell(x, 0, "yes 498+heart; counts 1+9*said;");
        Check.tell(x, 1, "ask 1; ask 2;");
        CHECK.due("499 before 500: whom", x.would(0, 0, 1, 2, 0), 2);
        CHECK.due("499 before 500: points", x.would(0, 0, 1, 2, 1), 20);
        CHECK.due("500 and 501 are alike", x.would(0, 1, 3, 2, 0), 3);
        CHECK.says("no DRAWS");
        for (int draw : new int[] {0, 499, 500, 999}) {
            x.state(Draws.of(draw));
            CHECK.due("a draw of " + draw, x.would(0, 1, 2, 3, 1), 20);
            CHECK.due("STATE", x.look(7), Draws.of(draw));
        }
        CHECK.says("question by question of all 16");
        x = Town.sure(3, 1, "yes 500-question; counts question+place+100*said;", 0);
        StringBuilder asks = new StringBuilder();
        for (int i = 0; i < 16; i++) asks.append("ask ").append(i).append(";");
        Check.tell(x, 1, asks.toString());
        CHECK.due("whom", x.would(0, 2, 1, 0, 0), 0);
        // only the first question is answered by yes: 99, and 1 .. 15 and 15 times 2
        CHECK.due("points", x.would(0, 2, 1, 0, 1), 99 + 120 + 30);
    }

    private static void coughsInThought() {
        CHECK.says("as WOULD's: who is in COUGHS: 10 points more");
        VeiledLandaus x = Town.sure(4, 1, "counts 10 when step=1; counts 9 when step=2; counts 0;", 1);
        x.cough(3, true);
        CHECK.due("10 against a cough: the first of both", x.would(0, 3, 1, 0, 0), 3);
        CHECK.due("10 against a cough", x.would(0, 1, 3, 0, 0), 1);
        CHECK.due("points", x.would(0, 1, 3, 0, 1), 10);
        CHECK.due("9 against a cough", x.would(0, 2, 3, 0, 0), 3);
        x.cough(2, true);
        CHECK.due("19 of one who coughs", x.would(0, 3, 0, 2, 1), 19);
        CHECK.due("COUGHS stay", x.look(4), 12);
        CHECK.due("and once more", x.would(0, 3, 0, 2, 1), 19);
    }

    private static void withoutQuestions() {
        CHECK.says("P19 without QUESTIONS: nobody has points");
        VeiledLandaus x = Town.sure(4, 1, "counts 50;", 0);
        CHECK.due("whom: the first", x.would(0, 3, 1, 0, 0), 3);
        CHECK.due("points", x.would(0, 3, 1, 0, 1), 0);
        x.cough(0, true);
        CHECK.due("whom: who coughs", x.would(0, 3, 1, 0, 0), 0);
        CHECK.due("points", x.would(0, 3, 1, 0, 1), 10);
    }

    private static void landaus() {
        CHECK.says("the landau with most points (of several the least)");
        for (int i = 0; i < 27; i++) {
            int[] p = {i / 9, i / 3 % 3, i % 3};
            VeiledLandaus x = Town.sure(4, 1, "counts " + p[0] + "-9 when place=0; counts " + p[1]
                + "-9 when place=1; counts " + p[2] + "-9;", 1);
            int best = 0;
            for (int l = 1; l < 3; l++) best = p[l] > p[best] ? l : best;
            int[] seated = {3, 2, 1};
            CHECK.due(p[0] + " " + p[1] + " " + p[2] + ": whom", x.would(0, 3, 2, 1, 0), seated[best]);
            CHECK.due(p[0] + " " + p[1] + " " + p[2] + ": points", x.would(0, 3, 2, 1, 1), p[best] - 9);
            CHECK.due("a wedding takes the same", x.wed(0, 3, 2, 1), seated[best]);
        }
        CHECK.says("her points: the least and the greatest");
        VeiledLandaus x = Town.sure(3, 1, "counts 99;", 16);
        CHECK.due("16 times 99", x.would(0, 0, 1, 2, 1), 1584);
        Check.tell(x, 0, "counts 0-99;");
        CHECK.due("16 times -99", x.would(0, 0, 1, 2, 1), -1584);
        for (int w = 0; w < 3; w++) x.cough(w, true);
        CHECK.due("and a cough", x.would(0, 0, 1, 2, 1), -1574);
    }

    private static void wedOrNot() {
        CHECK.says("WOULD: a GROOM (with WIFE or not) and three WOMEN (WED or not)");
        VeiledLandaus x = Town.sure(7, 2, "counts 3*step;", 1);
        x.wed(0, 1, 2, 3);
        x.wed(1, 4, 5, 6);
        CHECK.due("he has a WIFE, she is WED", x.would(0, 1, 2, 3, 0), 3);
        CHECK.due("all may be WED", x.would(0, 6, 3, 5, 0), 6);
        CHECK.due("another's WIFE", x.would(1, 1, 2, 3, 1), 9);
        CHECK.due("not to be WED by hand", x.wed(0, 1, 2, 4), -1);
    }

    private static void refusedGoes() {
        CHECK.says("P20: NONE - 9999 if one can't be (1 .. 60), or another what");
        VeiledLandaus x = Town.sure(4, 2, "", 2);
        x.wed(0, 1, 2, 3);
        String before = Sight.of(x);
        for (int n : new int[] {-1, 0, 61, 62}) {
            for (int what = 0; what <= 3; what++) CHECK.due("goes(" + n + ", " + what + ")", x.goes(n, what), NOTHING);
        }
        for (int n : Town.FAR) {
            if (n < 1 || n > 60) CHECK.due("goes(" + n + ", 0)", x.goes(n, 0), NOTHING);
        }
        for (int what : new int[] {-1, 4, 5}) CHECK.due("goes(1, " + what + ")", x.goes(1, what), NOTHING);
        for (int what : Town.FAR) CHECK.due("goes(1, " + what + ")", x.goes(1, what), NOTHING);
        CHECK.same("refused", Sight.of(x), before);
        CHECK.due("1 can be", x.goes(1, 3), 1);
        CHECK.due("60 can be", x.goes(60, 3), 1);
        x = new VeiledLandaus();
        for (int what = 0; what <= 3; what++) CHECK.due("an empty church, " + what, x.goes(60, what), 0);
    }

    private static void yearsInThought() {
        CHECK.says("GOES for n (1 .. 60) YEARS: TOWN, CHILDREN of all, GLAD of all, how many have a WIFE then");
        VeiledLandaus x = Town.sure(12, 3, "joy 1 when nerve=0; joy 0-1 when nerve=1; joy 0;", 0);
        CHECK.due("nobody has one", x.goes(1, 3), 0);
        x.wed(0, 1, 2, 3);
        x.wed(1, 0, 2, 3);
        x.wed(2, 4, 5, 6);
        CHECK.due("TOWN", x.goes(1, 0), -1);
        CHECK.due("WIVES", x.goes(1, 3), 3);
        CHECK.due("GLAD of one year", x.goes(1, 2), 0);
        x.set(5, 2, -50);
        CHECK.due("GLAD, below 0", x.goes(1, 2), -50);
        x.part(1);
        CHECK.due("GLAD of sixty years", x.goes(60, 2), 60 - 50);
        CHECK.due("WIVES", x.goes(60, 3), 2);
        x.set(5, 1, 77);
        CHECK.due("GLAD of one without a WIFE counts, too", x.goes(1, 2), 1 - 50 + 77);
        CHECK.says("GLAD -99 .. 99 held, in thought, too");
        x = Town.sure(3, 1, "joy 20;", 0);
        x.wed(0, 1, 2, 0);
        CHECK.due("80", x.goes(4, 2), 80);
        CHECK.due("99", x.goes(5, 2), 99);
        CHECK.due("99", x.goes(60, 2), 99);
        Check.tell(x, 0, "joy 0-20;");
        CHECK.due("-80", x.goes(4, 2), -80);
        CHECK.due("-99", x.goes(5, 2), -99);
        CHECK.due("-99", x.goes(60, 2), -99);
        CHECK.says("year goes on in thought");
        Check.tell(x, 0, "joy year;");
        CHECK.due("0 and 1 and 2", x.goes(3, 2), 3);
        x.years(2);
        CHECK.due("0 and 1, then 2", x.goes(1, 2), 3);
        CHECK.due("2 and 3", x.goes(2, 2), 6);
    }

    /** CHILDREN after a year in thought that begins with so much GLAD and joy. */
    private static int bornAt(int glad, String joy) {
        VeiledLandaus x = Town.sure(3, 1, "joy " + joy + ";", 0);
        x.wed(0, 1, 2, 0);
        x.set(5, 0, glad);
        return x.goes(1, 1);
    }

    private static void childrenInThought() {
        CHECK.says("a child comes, if it is 500 at least");
        CHECK.due("GLAD 79", bornAt(79, "0"), 0);
        CHECK.due("GLAD 80", bornAt(80, "0"), 1);
        CHECK.due("GLAD 81", bornAt(81, "0"), 1);
        CHECK.due("GLAD 99", bornAt(99, "0"), 1);
        CHECK.due("GLAD 0", bornAt(0, "0"), 0);
        CHECK.due("GLAD -99", bornAt(-99, "0"), 0);
        CHECK.due("GLAD 79 and joy 1", bornAt(79, "1"), 1);
        CHECK.due("GLAD 80 and joy -1", bornAt(80, "0-1"), 0);
        CHECK.says("if CHILDREN are below 20 (0 .. 20)");
        VeiledLandaus x = Town.sure(6, 2, "joy 0;", 0);
        x.wed(0, 1, 2, 3);
        x.set(5, 0, 99);
        for (int n : new int[] {1, 2, 19, 20, 21, 60}) CHECK.due("goes(" + n + ", 1)", x.goes(n, 1), Math.min(n, 20));
        x.wed(1, 4, 5, 3);
        x.set(5, 1, 80);
        CHECK.due("of both", x.goes(60, 1), 40);
        for (int i = 0; i < 19; i++) {
            x.state(Draws.of(400));
            x.years(1);
        }
        CHECK.due("19 in earnest", x.who(0, 4), 19);
        int others = x.who(1, 4);
        CHECK.due("20", x.goes(1, 1), 20 + others + 1);
        CHECK.due("no more than 20", x.goes(2, 1), 20 + Math.min(20, others + 2));
        x.part(0);
        x.part(1);
        CHECK.due("CHILDREN of all, without a WIFE, too", x.goes(60, 1), 19 + others);
    }

    private static void linesInThought() {
        CHECK.says("(a) in thought: wed, cough, part what can be done");
        VeiledLandaus x = Town.sure(7, 2, "joy 2; counts step; yes 0;", 1);
        Check.tell(x, 2, "in 0 part 0; in 0 wed 0 1 2 3; in 0 wed 1 3 4 5; in 0 cough 4; in 0 wed 1 4 5 6; in 2 part 0;"
            + "in 2 wed 0 1 2 3; in 3 part 0; in 999 part 1;");
        CHECK.due("TOWN: two weddings", x.goes(1, 0), 2);
        CHECK.due("WIVES", x.goes(1, 3), 2);
        CHECK.due("parted and WED anew: GLAD", x.goes(3, 2), 2 + 6);
        CHECK.due("TOWN", x.goes(3, 0), 3);
        CHECK.due("WIVES", x.goes(3, 3), 2);
        CHECK.due("parted: WIVES", x.goes(4, 3), 1);
        CHECK.due("parted: GLAD", x.goes(4, 2), 8);
        CHECK.due("as the years go by", x.years(4) >= 0 && x.look(3) == 3, true);
        // 4 + 10 takes landau 0 before 6: her points are in THE BOOK alone
        CHECK.due("WIFE", x.who(1, 2), 4);
        CHECK.says("a cough of thought is heard in thought and gone then");
        x = Town.sure(7, 2, "joy 0; counts 3 when step=6; counts 0;", 1);
        x.set(4, 0, 4);
        x.set(4, 1, 4);
        Check.tell(x, 2, "in 0 cough 4; in 1 wed 0 4 5 6; in 2 part 0; in 3 wed 1 4 5 6;");
        CHECK.due("TOWN: she, whom he is pledged to", x.goes(2, 0), -3);
        CHECK.due("TOWN: then another", x.goes(4, 0), -2);
        CHECK.due("COUGHS", x.look(4), 0);
        x.cough(4, true);
        CHECK.due("in COUGHS already", x.goes(4, 0), -2);
        CHECK.due("COUGHS stay", x.look(4), 16);
        CHECK.says("whom he is PLEDGED to: TOWN is 3 less, in thought, too");
        x = Town.sure(3, 1, "", 0);
        Check.tell(x, 2, "in 0 wed 0 0 1 2; in 1 part 0; in 1 wed 0 1 0 2;");
        CHECK.due("TOWN", x.goes(1, 0), -3);
        CHECK.due("TOWN", x.goes(2, 0), -2);
        CHECK.says("(b) a child of thought: no DRAWS, 500 at least");
        x = Town.sure(4, 1, "joy 20;", 0);
        Check.tell(x, 2, "in 59 wed 0 1 2 3;");
        CHECK.due("the sixtieth year is gone by", x.goes(60, 3), 1);
        CHECK.due("the fifty-ninth", x.goes(59, 3), 0);
    }

    private static void nothingStays() {
        CHECK.says("IN THOUGHT (nothing of it stays)");
        VeiledLandaus x = Town.sure(7, 2, "joy 20; counts step-place;", 3);
        Check.tell(x, 2, "in 1 wed 1 1 2 4; in 1 cough 0; in 1 cough 5; in 3 part 0; in 4 wed 0 1 2 3;");
        x.wed(0, 1, 2, 3);
        x.years(1);
        x.cough(6, true);
        x.state(99);
        x.years(1);
        String before = Sight.of(x);
        for (int what = 0; what <= 3; what++) x.goes(60, what);
        for (int what = 0; what <= 1; what++) {
            x.would(1, 6, 5, 4, what);
            x.tells(1, 0, 5, 4, what);
            x.sent(1, what);
        }
        CHECK.same("thoughts", Sight.of(x), before);
        CHECK.due("look(12)", x.look(12), 1);
        int state = x.look(7);
        x.years(2);
        CHECK.due("DRAWS go on from STATE", x.look(7) != state, true);
        x.undo();
        x.undo();
        CHECK.same("undone", Sight.of(x), before);
    }

    private static void refusedTells() {
        CHECK.says("P21: NONE if one can't be, she is not among them, or another what");
        VeiledLandaus x = Town.sure(5, 2, "yes 100*step;", 2);
        String before = Sight.of(x);
        for (int what : new int[] {-1, 2, 3}) CHECK.due("what " + what, x.tells(0, 0, 1, 2, what), -1);
        for (int what : Town.FAR) CHECK.due("what " + what, x.tells(0, 0, 1, 2, what), -1);
        for (int v : new int[] {-1, 2, 8}) CHECK.due("GROOM " + v, x.tells(v, 0, 1, 2, 1), -1);
        for (int v : Town.FAR) CHECK.due("GROOM " + v, x.tells(v, 0, 1, 2, 1), -1);
        for (int v : new int[] {-1, 5, 12}) tellsOf(x, v);
        for (int v : Town.FAR) tellsOf(x, v);
        for (int i = 0; i < 125; i++) {
            int a = i / 25;
            int b = i / 5 % 5;
            int c = i % 5;
            boolean unlike = a != b && b != c && a != c;
            int[] others = {a == 0 ? 9 : a, b == 0 ? 9 : b, c == 0 ? 9 : c};
            boolean she = a == 0 || b == 0 || c == 0;
            int near = 100 * Math.min(others[0], Math.min(others[1], others[2]));
            CHECK.due(a + " " + b + " " + c, x.tells(0, a, b, c, 1), unlike && she ? near : -1);
        }
        CHECK.same("refused", Sight.of(x), before);
        CHECK.says("P21: NONE, no QUESTIONS");
        x = Town.sure(3, 1, "yes 100*step;", 0);
        CHECK.due("the line", x.tells(0, 0, 1, 2, 0), -1);
        CHECK.due("how far", x.tells(0, 0, 1, 2, 1), -1);
        CHECK.due("an empty church", new VeiledLandaus().tells(0, 0, 1, 2, 0), -1);
    }

    private static void tellsOf(VeiledLandaus x, int v) {
        CHECK.due("WOMAN " + v + " first", x.tells(0, v, 0, 2, 1), -1);
        CHECK.due("WOMAN " + v + " second", x.tells(0, 0, v, 2, 1), -1);
        CHECK.due("WOMAN " + v + " third", x.tells(0, 0, 1, v, 1), -1);
    }

    private static void furthest() {
        CHECK.says("TELLS: furthest from the nearest one of the others: which line (of several the least)");
        VeiledLandaus x = Town.sure(3, 1, "yes 500 when she=1; yes 500-question when step=1; yes 500+2*question;", 0);
        Check.tell(x, 1, "ask 5; ask 9; ask 0; ask 9; ask 8;");
        CHECK.due("the line", x.tells(0, 0, 1, 2, 0), 1);
        CHECK.due("how far", x.tells(0, 0, 1, 2, 1), 9);
        Check.tell(x, 1, "ask 0;");
        CHECK.due("not far at all: the line", x.tells(0, 0, 1, 2, 0), 0);
        CHECK.due("how far", x.tells(0, 0, 1, 2, 1), 0);
        Check.tell(x, 1, "ask 0;".repeat(15) + "ask 1;");
        CHECK.due("the sixteenth", x.tells(0, 0, 1, 2, 0), 15);
        CHECK.says("how far: 0 .. 1000");
        Check.tell(x, 0, "yes 9999 when she=1; yes 0-1;");
        CHECK.due("1000 and 0, 0", x.tells(0, 1, 0, 2, 1), 1000);
        CHECK.due("the first of all", x.tells(0, 1, 0, 2, 0), 0);
        Check.tell(x, 0, "yes 0 when she=1; yes 1000;");
        CHECK.due("0 and 1000, 1000", x.tells(0, 1, 2, 0, 1), 1000);
        Check.tell(x, 0, "yes 0 when she=1; yes 1000 when step=1; yes 1;");
        CHECK.due("0 and 1000, 1", x.tells(0, 1, 2, 0, 1), 1);
        CHECK.due("0 and 1, 1000", x.tells(0, 2, 0, 1, 1), 1);
        CHECK.says("(in her landau)");
        Check.tell(x, 0, "yes 100+7*place when she=1; yes 200+100*place;");
        CHECK.due("first: 100 of 300, 400", x.tells(0, 0, 1, 2, 1), 200);
        CHECK.due("second: 107 of 200, 400", x.tells(0, 1, 0, 2, 1), 93);
        CHECK.due("third: 114 of 200, 300", x.tells(0, 1, 2, 0, 1), 86);
        CHECK.says("of the one he is PLEDGED to, WED or not, with WIFE or not");
        x.wed(0, 1, 0, 2);
        CHECK.due("after a wedding", x.tells(0, 1, 2, 0, 1), 86);
        x.groom(3, 2);
        Check.tell(x, 0, "yes 100*step+nerve;");
        CHECK.due("another's", x.tells(1, 0, 1, 2, 1), 100);
        CHECK.due("his", x.tells(0, 0, 1, 2, 1), 100);
        Check.tell(x, 0, "yes 10*nerve when she=1; yes 100*step;");
        CHECK.due("another's: 30 of 0, 100", x.tells(1, 0, 1, 2, 1), 30);
    }

    private static void refusedSent() {
        CHECK.says("P22: NONE - 9999 if there are not two, there is none such, or another what");
        VeiledLandaus x = Town.sure(4, 2, "", 1);
        String before = Sight.of(x);
        for (int what : new int[] {-1, 2, 3}) CHECK.due("what " + what, x.sent(0, what), NOTHING);
        for (int what : Town.FAR) CHECK.due("what " + what, x.sent(0, what), NOTHING);
        for (int v : new int[] {-1, 2, 8}) {
            CHECK.due("GROOM " + v, x.sent(v, 0), NOTHING);
            CHECK.due("GROOM " + v, x.sent(v, 1), NOTHING);
        }
        for (int v : Town.FAR) CHECK.due("GROOM " + v, x.sent(v, 0), NOTHING);
        CHECK.same("refused", Sight.of(x), before);
        CHECK.due("an empty church", new VeiledLandaus().sent(0, 0), NOTHING);
        for (int women = 1; women <= 12; women++) {
            x = Town.of(women, 1);
            CHECK.due(women + " WOMEN: the set", x.sent(0, 0), women < 3 ? NOTHING : 6);
            CHECK.due(women + " WOMEN: more", x.sent(0, 1), women < 3 ? NOTHING : 0);
        }
        CHECK.says("SENT: two WOMEN not WED (others than she)");
        x = Town.sure(4, 2, "counts step;", 1);
        x.wed(0, 1, 2, 3);
        CHECK.due("two are left", x.sent(1, 0), 6);
        CHECK.due("his own WIFE is WED, too", x.sent(0, 0), 6);
        x.set(4, 1, 1);
        CHECK.due("she is not one of the two", x.sent(1, 0), 5);
        x.wed(1, 0, 1, 2);
        CHECK.due("one is left", x.sent(1, 0), NOTHING);
        CHECK.due("one is left", x.sent(1, 1), NOTHING);
        x.set(4, 1, 2);
        CHECK.due("she is WED, two are left", x.sent(1, 0), 3);
        CHECK.due("how many more", x.sent(1, 1), 1);
        x.part(0);
        x.part(1);
        CHECK.due("all are back: 0 and 1 beside 2", x.sent(1, 0), 3);
    }

    private static void beside() {
        CHECK.says("she in the second, of both the lesser number in the first");
        // points by WOMAN: in the first, in the third
        int[][] first = {{5, 1, 0}, {1, 5, 0}, {0, 0, 5}, {3, 3, 3}};
        for (int[] p : first) {
            VeiledLandaus x = Town.of(4, 1);
            Check.tell(x, 1, "ask 1;");
            Check.tell(x, 0, "counts 20 when she=1 and place=1; counts 50 when she=1;" + "counts 9 when place=1;"
                + "counts " + p[0] + " when step=1 and place=0; counts " + p[1] + " when step=2 and place=0; counts "
                + p[2] + " when step=3 and place=2; counts 4 when place=2; counts 9;");
            int firstSecond = 20 - Math.max(p[0], 4);
            int firstThird = 20 - Math.max(p[0], p[2]);
            int secondThird = 20 - Math.max(p[1], p[2]);
            int best = Math.max(firstSecond, Math.max(firstThird, secondThird));
            CHECK.due("more", x.sent(0, 1), best);
            CHECK.due("the set", x.sent(0, 0), best == firstSecond ? 6 : best == firstThird ? 10 : 12);
        }
        CHECK.says("most points more than the best of the others has (may be below 0)");
        VeiledLandaus x = Town.sure(5, 1, "counts 0-90 when she=1; counts 99-step;", 16);
        CHECK.due("below 0", x.sent(0, 1), 16 * -90 - 16 * (99 - 3));
        CHECK.due("the set", x.sent(0, 0), 24);
        Check.tell(x, 0, "counts 99 when she=1; counts 0-99;");
        CHECK.due("the most there is", x.sent(0, 1), 16 * 198);
        for (int w = 1; w < 5; w++) x.cough(w, true);
        CHECK.due("who coughs has 10 more", x.sent(0, 1), 16 * 198 - 10);
        x.cough(0, true);
        CHECK.due("she, too", x.sent(0, 1), 16 * 198);
        x.cough(4, false);
        CHECK.due("one of two coughs: no better", x.sent(0, 1), 16 * 198);
        x.cough(1, false);
        CHECK.due("two do not cough", x.sent(0, 1), 16 * 198 + 10);
        CHECK.due("the set", x.sent(0, 0), 2 + 16);
        CHECK.says("(as WOULD's points): without QUESTIONS a cough alone");
        Check.tell(x, 1, "");
        CHECK.due("more", x.sent(0, 1), 10);
        x.cough(0, false);
        CHECK.due("more", x.sent(0, 1), 0);
        x.cough(1, true);
        CHECK.due("one at least coughs", x.sent(0, 1), -10);
        CHECK.due("the least set", x.sent(0, 0), 6);
    }

    private static void ofSeveral() {
        CHECK.says("both as a set (of several the least)");
        VeiledLandaus x = Town.sure(9, 1, "counts 5 when she=1; counts 0 when step=3 or step=5 or step=6 or step=8; counts 9;", 1);
        CHECK.due("3 and 5", x.sent(0, 0), 8 + 32);
        x.set(0, 3, 7);
        CHECK.due("5 and 6", x.sent(0, 0), 32 + 64);
        x.set(4, 0, 6);
        CHECK.due("5 and 8", x.sent(0, 0), 32 + 256);
        x.set(0, 8, 7);
        CHECK.due("one of 9 at least: the least set", x.sent(0, 0), 3);
        CHECK.says("a set as one number: {1, 2} before {0, 3}");
        Check.tell(x, 0, "counts 5 when she=1; counts 0 when step=1 or step=2 or step=0 and place=2 or step=3 and place=2; counts 1;");
        CHECK.due("1 and 2", x.sent(0, 0), 6);
        Check.tell(x, 0, "counts 5 when she=1; counts 0 when place=2 and (step=2 or step=3) or place=0 and (step=0 or step=1);"
            + "counts 1;");
        CHECK.due("0 and 2, 1 and 2, 0 and 3, 1 and 3", x.sent(0, 0), 5);
        x = Town.sure(12, 1, "counts 0;", 1);
        CHECK.due("all alike", x.sent(0, 0), 6);
        x.set(4, 0, 1);
        CHECK.due("all alike", x.sent(0, 0), 5);
        x.set(4, 0, 11);
        CHECK.due("all alike", x.sent(0, 0), 3);
        for (int w = 0; w < 10; w++) x.cough(w, true);
        x.set(4, 0, 0);
        CHECK.due("the last two", x.sent(0, 0), 1024 + 2048);
    }

    /** What the GROOM is asked as, in each landau, and for each of the women. */
    private static void byGroom() {
        String[] laws = {"counts nerve when place=0; counts 9 when place=1; counts 0;",
            "counts 9 when place=1; counts nerve when place=2; counts 0;",
            "counts 20-nerve when place=1; counts nerve;",
            "yes 496+nerve when place=2; yes 0; counts 7*said;"};
        for (int law = 0; law < laws.length; law++) {
            VeiledLandaus x = Town.sure(7, 6, laws[law], 1);
            for (int g = 0; g < 6; g++) {
                int third = g >= 4 ? 7 : 0;
                int more = law < 2 ? 9 - g : law == 2 ? 20 - 2 * g : -third;
                CHECK.says("SENT, of that GROOM");
                CHECK.due("law " + law + ", GROOM " + g + ": the set", x.sent(g, 0), 6);
                CHECK.due("law " + law + ", GROOM " + g + ": more", x.sent(g, 1), more);
                CHECK.says("WOULD, of that GROOM");
                int points = law < 2 ? 9 : law == 2 ? 20 - g : third;
                CHECK.due("law " + law + ", GROOM " + g + ": points", x.would(g, 5, 0, 3, 1), points);
            }
        }
        CHECK.says("TELLS, of that GROOM");
        VeiledLandaus x = Town.sure(7, 6, "yes 100*nerve when she=1; yes 50*step;", 1);
        for (int g = 0; g < 6; g++) {
            int far = Math.min(Math.abs(100 * g - 150), Math.abs(100 * g - 250));
            CHECK.due("GROOM " + g, x.tells(g, 3, 0, 5, 1), far);
        }
    }
}
