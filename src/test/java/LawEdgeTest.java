/** Promises 15 to 17 and what THE LAW tells: each sentence that names an edge, by itself. */
public final class LawEdgeTest {
    private static final Check CHECK = new Check("LawEdgeTest");
    private static final int NOTHING = -100;

    public static void main(String[] args) {
        held();
        defaults();
        firstLine();
        conditions();
        wraps();
        quotients();
        inOrder();
        hers();
        his();
        asked();
        joyHearsNothing();
        noneSuch();
        eachByItself();
        CHECK.close();
    }

    /** Four WOMEN of STEP 0 .. 3, a GROOM pledged to the first, and one question. */
    private static VeiledLandaus town(String law) {
        return Town.sure(4, 1, law, 1);
    }

    private static int yes(String e) {
        return town("yes " + e + ";").yes(0, 1, 0, 0);
    }

    private static int counts(String e) {
        return town("counts " + e + ";").counts(0, 1, 0, 0, true);
    }

    private static int joy(String e) {
        return town("joy " + e + ";").who(0, 11);
    }

    private static void holds(String b, boolean so) {
        CHECK.due(b, town("counts 7 when " + b + ";").counts(0, 1, 0, 0, false), so ? 7 : 1);
    }

    private static void held() {
        CHECK.says("yes held to 0 .. 1000");
        CHECK.due("0", yes("0"), 0);
        CHECK.due("1", yes("1"), 1);
        CHECK.due("0-1", yes("0-1"), 0);
        CHECK.due("0-9999", yes("0-9999"), 0);
        CHECK.due("the least int", yes("2048*1024*1024"), 0);
        CHECK.due("999", yes("999"), 999);
        CHECK.due("1000", yes("1000"), 1000);
        CHECK.due("1001", yes("1001"), 1000);
        CHECK.due("9999", yes("9999"), 1000);
        CHECK.due("the greatest int", yes("2048*1024*1024-1"), 1000);
        CHECK.says("counts to -99 .. 99");
        CHECK.due("98", counts("98"), 98);
        CHECK.due("99", counts("99"), 99);
        CHECK.due("100", counts("100"), 99);
        CHECK.due("0", counts("0"), 0);
        CHECK.due("-98", counts("0-98"), -98);
        CHECK.due("-99", counts("0-99"), -99);
        CHECK.due("-100", counts("0-100"), -99);
        CHECK.due("the least int", counts("2048*1024*1024"), -99);
        CHECK.due("the greatest int", counts("2048*1024*1024-1"), 99);
        CHECK.says("joy to -20 .. 20");
        CHECK.due("19", joy("19"), 19);
        CHECK.due("20", joy("20"), 20);
        CHECK.due("21", joy("21"), 20);
        CHECK.due("0", joy("0"), 0);
        CHECK.due("-19", joy("0-19"), -19);
        CHECK.due("-20", joy("0-20"), -20);
        CHECK.due("-21", joy("0-21"), -20);
        CHECK.due("the least int", joy("2048*1024*1024"), -20);
        CHECK.due("the greatest int", joy("2048*1024*1024-1"), 20);
    }

    private static void defaults() {
        for (int heart = 0; heart <= 9; heart++) {
            VeiledLandaus x = new VeiledLandaus();
            for (int rote = 0; rote <= 9; rote++) x.woman(0, heart, rote);
            x.groom(0, 0);
            Check.tell(x, 1, "ask 99;");
            for (int rote = 0; rote <= 9; rote++) {
                CHECK.says("none: yes: 500 and 40 times heart less 30 times rote and 200 times she, held");
                int base = 500 + 40 * heart - 30 * rote;
                x.set(4, 0, rote);
                CHECK.due("heart " + heart + " rote " + rote + ", she", x.yes(0, rote, 0, 2), Math.min(1000, base + 200));
                x.set(4, 0, (rote + 1) % 10);
                CHECK.due("heart " + heart + " rote " + rote, x.yes(0, rote, 0, 0), base);
            }
            CHECK.says("none: joy: heart less 4 and she");
            x.set(4, 0, 3);
            CHECK.due("heart " + heart + ", she", x.who(0, 13), heart - 3);
            CHECK.due("heart " + heart, x.who(0, 12), heart - 4);
            CHECK.says("none: counts: 1");
            CHECK.due("yes", x.counts(0, 3, 0, 1, true), 1);
            CHECK.due("no", x.counts(0, 3, 0, 1, false), 1);
            CHECK.due("yes of another", x.counts(0, 2, 0, 0, true), 1);
        }
    }

    private static void firstLine() {
        CHECK.says("E of the first line with that word whose B is so, or that has none");
        VeiledLandaus x = town("counts 1 when 0=1; yes 600; counts 2; counts 3; joy 4; joy 5; yes 700;");
        CHECK.due("the second counts", x.counts(0, 1, 0, 0, true), 2);
        CHECK.due("the first yes", x.yes(0, 1, 0, 0), 600);
        CHECK.due("the first joy", x.who(0, 11), 4);
        x = town("joy 1 when step=1; joy 2 when step=2; joy 3 when step<3; joy 4 when step<9; joy 5;");
        int[] due = {3, 1, 2, 4};
        for (int woman = 0; woman < 4; woman++) CHECK.due("joy " + woman, x.who(0, 10 + woman), due[woman]);
        CHECK.says("16 lines: the last one is a line, too");
        x = town("joy 1 when 0=1;".repeat(15) + "joy 7 when step=2;");
        CHECK.due("the sixteenth", x.who(0, 12), 7);
        CHECK.due("none", x.who(0, 11), -4);
        x = town("joy 0-1;" + "yes 1;".repeat(15));
        CHECK.due("the first", x.who(0, 12), -1);
        CHECK.says("(none: yes: 500 .., counts: 1, joy: heart less 4 and she)");
        x = town("yes 1 when 0=1; counts 9 when 0=1; joy 9 when 0=1;");
        CHECK.due("yes: none is so", x.yes(0, 1, 0, 0), 500);
        CHECK.due("yes: none is so, she", x.yes(0, 0, 0, 0), 700);
        CHECK.due("counts: none is so", x.counts(0, 1, 0, 0, true), 1);
        CHECK.due("joy: none is so", x.who(0, 11), -4);
        x = town("yes 1;");
        CHECK.due("counts: no line", x.counts(0, 1, 0, 0, false), 1);
        CHECK.due("joy: no line", x.who(0, 10), -3);
        x = town("counts 0-5; joy 5;");
        CHECK.due("yes: no line", x.yes(0, 1, 0, 0), 500);
        CHECK.says("an E of 0 is one, too");
        CHECK.due("yes 0", town("yes 0; yes 9;").yes(0, 1, 0, 0), 0);
        CHECK.due("counts 0", town("counts 0; counts 9;").counts(0, 1, 0, 0, true), 0);
        CHECK.due("joy 0", town("joy 0; joy 9;").who(0, 11), 0);
        CHECK.says("TEXTS (empty at first): an empty LAW tells what none tells");
        x = town("yes 1; counts 9; joy 9;");
        Check.tell(x, 0, "");
        CHECK.due("yes", x.yes(0, 1, 0, 0), 500);
        CHECK.due("counts", x.counts(0, 1, 0, 0, true), 1);
        CHECK.due("joy", x.who(0, 11), -4);
    }

    private static void conditions() {
        CHECK.says("C = E (< | = | >) E: alike is neither less nor more");
        holds("1<2", true);
        holds("2<2", false);
        holds("3<2", false);
        holds("1=2", false);
        holds("2=2", true);
        holds("3=2", false);
        holds("1>2", false);
        holds("2>2", false);
        holds("3>2", true);
        holds("0-1<0", true);
        holds("0-1>0", false);
        holds("2048*1024*1024<2048*1024*1024-1", true);
        holds("2048*1024*1024-1>2048*1024*1024", true);
        holds("2048*1024*1024=0-2048*1024*1024", true);
        CHECK.says("B = A {or A}. A = C {and C}. C = .. | not C | ( B )");
        for (int i = 0; i < 8; i++) {
            boolean a = (i & 4) != 0;
            boolean b = (i & 2) != 0;
            boolean c = (i & 1) != 0;
            String p = a ? "1=1" : "1=0";
            String q = b ? "2>1" : "2<1";
            String r = c ? "3<4" : "3>4";
            holds(p + " or " + q + " and " + r, a || b && c);
            holds(p + " and " + q + " or " + r, a && b || c);
            holds("(" + p + " or " + q + ") and " + r, (a || b) && c);
            holds("not " + p + " and " + q + " or " + r, !a && b || c);
            holds("not (" + p + " and " + q + ") or " + r, !(a && b) || c);
            holds("not not " + p + " and not " + q + " and " + r, a && !b && c);
            holds(p + " or " + q + " or " + r, a || b || c);
            holds(p + " and " + q + " and " + r, a && b && c);
            holds("not (not (" + p + ") or not " + q + ") and (((" + r + ")))", a && b && c);
        }
        holds("not not not not not not not not 1=1", true);
        holds("not not not not not not not 1=1", false);
        holds("((((((((1=1))))))))", true);
        holds("not(not(not(not(1=2))))", false);
    }

    private static void wraps() {
        CHECK.says("Ints, which wrap");
        holds("2048*1024*1024<0", true);
        holds("2048*1024*1024-1>0", true);
        holds("0-2048*1024*1024<0", true);
        holds("2048*1024*1024-1+1<0", true);
        holds("2048*1024*1023+2048*1024<0", true);
        holds("4096*1024*1024=0", true);
        holds("4096*1024*1024+3=3", true);
        holds("9999*9999=9998*9999+9999", true);
        holds("9999*9999*9999*43<0", 9999 * 9999 * 9999 * 43 < 0);
        int nines = 9999;
        int power = nines * nines * nines;
        CHECK.due("9999 three times", counts("9999*9999*9999/9999/9999"), power / 9999 / 9999);
        CHECK.due("9999 three times by 7000 twice", counts("9999*9999*9999/7000/7000"), power / 7000 / 7000);
        CHECK.due("the least int by 9999 twice", counts("2048*1024*1024/9999/9999"), Integer.MIN_VALUE / 9999 / 9999);
        CHECK.due("the least int by 1", counts("2048*1024*1024/1"), -99);
    }

    private static void quotients() {
        CHECK.says("/ goes towards 0");
        CHECK.due("7/2", counts("7/2"), 3);
        CHECK.due("6/2", counts("6/2"), 3);
        CHECK.due("1/2", counts("1/2"), 0);
        CHECK.due("0/2", counts("0/2"), 0);
        CHECK.due("9999/9999", counts("9999/9999"), 1);
        CHECK.due("9998/9999", counts("9998/9999"), 0);
        int[] glads = {-99, -9, -8, -7, -6, -5, -4, -3, -2, -1, 0, 1, 2, 3, 4, 5, 99};
        for (int glad : glads) {
            VeiledLandaus x = Town.of(2, 1);
            x.set(5, 0, glad);
            for (int by = 1; by <= 8; by++) {
                Check.tell(x, 0, "joy glad/" + by + ";");
                CHECK.due("glad " + glad + " by " + by, x.who(0, 10), Math.max(-20, Math.min(20, glad / by)));
            }
            Check.tell(x, 0, "joy glad/100;");
            CHECK.due("glad " + glad + " by 100", x.who(0, 10), 0);
        }
    }

    private static void inOrder() {
        CHECK.says("E = T {(+ | -) T}. T = U {* U | / NUMBER}: from left to right");
        CHECK.due("9-4-3", counts("9-4-3"), 2);
        CHECK.due("9-4+3", counts("9-4+3"), 8);
        CHECK.due("9-2*3", counts("9-2*3"), 3);
        CHECK.due("2*3-9", counts("2*3-9"), -3);
        CHECK.due("7/2*2", counts("7/2*2"), 6);
        CHECK.due("2*7/2", counts("2*7/2"), 7);
        CHECK.due("90/4/5", counts("90/4/5"), 4);
        CHECK.due("90-8/4/2", counts("90-8/4/2"), 89);
        CHECK.due("1-2-3*4-5/2", counts("1-2-3*4-5/2"), -15);
        CHECK.due("3*4*5-7*8", counts("3*4*5-7*8"), 4);
        StringBuilder long1 = new StringBuilder("0");
        for (int i = 0; i < 150; i++) long1.append(i % 2 == 0 ? "+1" : "-0");
        CHECK.due("151 of them", counts(long1.toString()), 75);
        CHECK.due("180 times 1", counts("1" + "*1".repeat(180) + "+1"), 2);
        CHECK.due("180 parts by 1", counts("9" + "/1".repeat(180) + "+1"), 10);
    }

    private static void hers() {
        CHECK.says("step, heart, rote: hers; she: 1, if he is PLEDGED to her");
        String[] names = {"step", "heart", "rote"};
        for (int what = 0; what <= 2; what++) {
            VeiledLandaus x = town("yes 100+" + names[what] + "; counts 20+" + names[what] + "; joy " + names[what] + ";");
            for (int v : new int[] {0, 1, 8, 9}) {
                x.set(what, 2, v);
                x.set(what, 1, 9 - v);
                CHECK.due("yes: " + names[what] + " " + v, x.yes(0, 2, 0, 0), 100 + v);
                CHECK.due("counts: " + names[what] + " " + v, x.counts(0, 2, 0, 0, true), 20 + v);
                CHECK.due("joy: " + names[what] + " " + v, x.who(0, 12), v);
                CHECK.due("joy of another: " + names[what], x.who(0, 11), 9 - v);
            }
        }
        VeiledLandaus x = Town.sure(12, 2, "yes 7+she; counts 5-she; joy she;", 1);
        x.set(4, 1, 11);
        for (int groom = 0; groom < 2; groom++) {
            for (int woman = 0; woman < 12; woman++) {
                int she = woman == 11 * groom ? 1 : 0;
                CHECK.due("yes she", x.yes(groom, woman, 0, 0), 7 + she);
                CHECK.due("counts she", x.counts(groom, woman, 0, 0, true), 5 - she);
                CHECK.due("joy she", x.who(groom, 10 + woman), she);
            }
        }
    }

    private static void his() {
        CHECK.says("nerve, children, glad: his; year");
        VeiledLandaus x = Town.sure(4, 3, "yes 100+nerve; counts 10+nerve; joy nerve;", 1);
        for (int groom = 0; groom < 3; groom++) {
            x.set(3, groom, 9 - groom);
            CHECK.due("yes nerve", x.yes(groom, 1, 0, 0), 109 - groom);
            CHECK.due("counts nerve", x.counts(groom, 1, 0, 0, false), 19 - groom);
            CHECK.due("joy nerve", x.who(groom, 11), 9 - groom);
        }
        Check.tell(x, 0, "yes 500+glad; counts glad; joy glad/5;");
        for (int glad : new int[] {-99, -1, 0, 1, 99}) {
            x.set(5, 1, glad);
            CHECK.due("yes glad", x.yes(1, 1, 0, 0), 500 + glad);
            CHECK.due("counts glad", x.counts(1, 1, 0, 0, true), glad);
            CHECK.due("joy glad", x.who(1, 11), glad / 5);
            CHECK.due("glad of another", x.counts(0, 1, 0, 0, true), 0);
        }
        x = Town.sure(4, 2, "joy 0;", 1);
        x.wed(1, 1, 2, 3);
        x.set(5, 1, 99);
        for (int i = 0; i < 20; i++) {
            x.state(Draws.of(0));
            x.years(1);
        }
        Check.tell(x, 0, "yes children; counts children+year; joy children-year;");
        CHECK.due("children 20", x.yes(1, 2, 0, 0), 20);
        CHECK.due("children 0", x.yes(0, 2, 0, 0), 0);
        CHECK.due("children and year", x.counts(1, 0, 0, 0, true), 40);
        CHECK.due("children less year", x.who(1, 10), 0);
        CHECK.due("children less year of another", x.who(0, 10), -20);
        x = Town.sure(3, 1, "yes year; counts year-9990; joy year-9990;", 1);
        CHECK.due("year 0", x.yes(0, 1, 0, 0), 0);
        x.years(1);
        CHECK.due("year 1", x.yes(0, 1, 0, 0), 1);
        for (int i = 0; i < 166; i++) x.years(60);
        x.years(38);
        CHECK.due("YEAR", x.look(2), 9999);
        CHECK.due("year 9999, counts", x.counts(0, 1, 0, 0, true), 9);
        CHECK.due("year 9999, joy", x.who(0, 11), 9);
    }

    private static void asked() {
        CHECK.says("question: the NUMBER asked");
        VeiledLandaus x = Town.of(4, 1);
        Check.tell(x, 0, "yes question; counts question;");
        int[] numbers = {0, 99, 7, 98, 1, 50, 7, 0, 2, 3, 4, 5, 6, 8, 9, 10};
        StringBuilder asks = new StringBuilder();
        for (int n : numbers) asks.append("ask ").append(n).append(";");
        CHECK.due("sixteen", Check.tell(x, 1, asks.toString()), 16);
        for (int q = 0; q < 16; q++) {
            CHECK.due("yes, line " + q, x.yes(0, 1, q, 1), numbers[q]);
            CHECK.due("counts, line " + q, x.counts(0, 1, q, 1, true), numbers[q]);
        }
        CHECK.says("place: 0, 1, 2, the landau");
        Check.tell(x, 0, "yes 5+place; counts 7+place;");
        for (int landau = 0; landau < 3; landau++) {
            CHECK.due("yes in " + landau, x.yes(0, 1, 3, landau), 5 + landau);
            CHECK.due("counts in " + landau, x.counts(0, 1, 3, landau, false), 7 + landau);
        }
        CHECK.says("said: 1, if she said yes (counts; else 0)");
        Check.tell(x, 0, "yes 3+said; counts 4+said; joy 5+said;");
        CHECK.due("counts, yes", x.counts(0, 1, 0, 0, true), 5);
        CHECK.due("yes after it", x.yes(0, 1, 0, 0), 3);
        CHECK.due("counts, yes", x.counts(0, 1, 0, 0, true), 5);
        CHECK.due("joy after it", x.who(0, 11), 5);
        CHECK.due("counts, no", x.counts(0, 1, 0, 0, false), 4);
        CHECK.due("joy after it", x.who(0, 11), 5);
        CHECK.says("said in a wedding: yes hears 0 there, too");
        Check.tell(x, 0, "yes 1000-1000*said; counts 9*said;");
        Check.tell(x, 1, "ask 1; ask 2; ask 3;");
        x.wed(0, 1, 2, 3);
        for (int i = 0; i < 9; i++) CHECK.due("answer " + i, x.book(i, 1), 0);
        CHECK.due("her points", x.book(9, 3), 27);
        x = Town.sure(4, 1, "yes 0; counts 5-9*said;", 2);
        x.wed(0, 1, 2, 3);
        CHECK.due("her points, said no twice", x.book(6, 3), 10);
        CHECK.due("in thought", x.would(0, 1, 2, 3, 1), 10);
    }

    private static void joyHearsNothing() {
        CHECK.says("question, place (joy: 0); said (counts; else 0)");
        VeiledLandaus x = Town.of(4, 1);
        Check.tell(x, 0, "joy question+place+said;");
        Check.tell(x, 1, "ask 3; ask 4;");
        CHECK.due("yes", x.yes(0, 1, 1, 2), 500);
        CHECK.due("joy after yes", x.who(0, 11), 0);
        x.counts(0, 1, 1, 2, true);
        CHECK.due("joy after counts", x.who(0, 11), 0);
        x.would(0, 1, 2, 3, 0);
        CHECK.due("joy after WOULD", x.who(0, 11), 0);
        x.tells(0, 0, 1, 2, 0);
        CHECK.due("joy after TELLS", x.who(0, 11), 0);
        x.wed(0, 1, 2, 3);
        CHECK.due("joy after a WEDDING", x.who(0, 11), 0);
        x.years(1);
        CHECK.due("GLAD of a YEAR", x.who(0, 3), 0);
        CHECK.due("GLAD in thought", x.goes(5, 2), 0);
    }

    private static void noneSuch() {
        VeiledLandaus x = Town.sure(4, 2, "yes 9; counts 9; joy 9;", 2);
        String before = Sight.of(x);
        CHECK.says("P16: NONE if there is none such; P17: NONE - 99 if there is none such");
        for (int v : new int[] {-1, 2, 3, 4, 8, 12}) refused(x, v, 2, 4, 2, 3);
        for (int v : Town.FAR) refused(x, v, 2, 4, 2, 3);
        CHECK.due("the last ones: yes", x.yes(1, 3, 1, 2), 9);
        CHECK.due("the last ones: counts", x.counts(1, 3, 1, 2, true), 9);
        CHECK.due("the first ones: yes", x.yes(0, 0, 0, 0), 9);
        CHECK.due("the first ones: counts", x.counts(0, 0, 0, 0, false), 9);
        CHECK.same("refused", Sight.of(x), before);

        CHECK.says("P16, P17: no line of QUESTIONS");
        x = Town.sure(4, 2, "yes 9; counts 9; joy 9;", 0);
        CHECK.due("yes", x.yes(0, 0, 0, 0), -1);
        CHECK.due("counts", x.counts(0, 0, 0, 0, true), NOTHING);
        x = new VeiledLandaus();
        CHECK.due("yes in an empty church", x.yes(0, 0, 0, 0), -1);
        CHECK.due("counts in an empty church", x.counts(0, 0, 0, 0, true), NOTHING);
        Check.tell(x, 1, "ask 1;");
        CHECK.due("yes without WOMEN", x.yes(0, 0, 0, 0), -1);
        CHECK.due("counts without WOMEN", x.counts(0, 0, 0, 0, true), NOTHING);
        x.woman(0, 0, 0);
        CHECK.due("yes without GROOMS", x.yes(0, 0, 0, 0), -1);
        CHECK.due("counts without GROOMS", x.counts(0, 0, 0, 0, true), NOTHING);
        x.groom(0, 0);
        CHECK.due("yes", x.yes(0, 0, 0, 0), 700);
        CHECK.due("counts", x.counts(0, 0, 0, 0, true), 1);

        CHECK.says("P15: NONE - 99 if there is none such, or another what (10 + w)");
        x = Town.of(4, 2);
        for (int what : new int[] {-1, 6, 7, 8, 9, 14, 15, 21, 22}) CHECK.due("who(0, " + what + ")", x.who(0, what), NOTHING);
        for (int what : Town.FAR) CHECK.due("who(0, " + what + ")", x.who(0, what), NOTHING);
        for (int groom : new int[] {-1, 2, 7, 8}) CHECK.due("who(" + groom + ", 10)", x.who(groom, 10), NOTHING);
        for (int groom : Town.FAR) CHECK.due("who(" + groom + ", 10)", x.who(groom, 10), NOTHING);
        CHECK.due("the last one", x.who(1, 13), -4);
        x = Town.of(12, 8);
        CHECK.due("the twelfth", x.who(7, 21), -4);
        CHECK.due("no thirteenth", x.who(7, 22), NOTHING);
    }

    private static void refused(VeiledLandaus x, int v, int grooms, int women, int lines, int landaus) {
        if (v < 0 || v >= grooms) {
            CHECK.due("yes of GROOM " + v, x.yes(v, 0, 0, 0), -1);
            CHECK.due("counts of GROOM " + v, x.counts(v, 0, 0, 0, true), NOTHING);
        }
        if (v < 0 || v >= women) {
            CHECK.due("yes of WOMAN " + v, x.yes(0, v, 0, 0), -1);
            CHECK.due("counts of WOMAN " + v, x.counts(0, v, 0, 0, false), NOTHING);
        }
        if (v < 0 || v >= lines) {
            CHECK.due("yes for line " + v, x.yes(0, 0, v, 0), -1);
            CHECK.due("counts for line " + v, x.counts(0, 0, v, 0, true), NOTHING);
        }
        if (v < 0 || v >= landaus) {
            CHECK.due("yes in landau " + v, x.yes(0, 0, 0, v), -1);
            CHECK.due("counts in landau " + v, x.counts(0, 0, 0, v, false), NOTHING);
        }
    }

    private static void eachByItself() {
        CHECK.says("yes, counts, joy of that WOMAN and that GROOM, whatever was asked before");
        String law = "yes 100*nerve+10*step+place; counts 10*nerve+step-9*said; joy nerve+step;";
        VeiledLandaus x = Town.sure(4, 3, law, 1);
        for (int groom = 2; groom >= 0; groom--) {
            for (int woman = 3; woman >= 0; woman--) {
                x.who((groom + 1) % 3, 10 + (woman + 1) % 4);
                CHECK.due("counts", x.counts(groom, woman, 0, 0, false), 10 * groom + woman);
                x.who((groom + 1) % 3, 10 + (woman + 2) % 4);
                CHECK.due("yes", x.yes(groom, woman, 0, 1), 100 * groom + 10 * woman + 1);
                x.yes((groom + 2) % 3, (woman + 1) % 4, 0, 2);
                CHECK.due("joy", x.who(groom, 10 + woman), groom + woman);
                x.would((groom + 2) % 3, 0, 1, 2, 0);
                CHECK.due("counts", x.counts(groom, woman, 0, 2, true), 10 * groom + woman - 9);
            }
        }
    }
}
