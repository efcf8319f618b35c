/** Promises 15 to 17: what THE LAW tells. */
public final class LawTest {
    private static final Check CHECK = new Check("LawTest");

    public static void main(String[] args) {
        withoutLaw();
        names();
        firstLine();
        reckoning();
        conditions();
        wrong();
        CHECK.close();
    }

    private static VeiledLandaus town() {
        VeiledLandaus x = new VeiledLandaus();
        x.woman(3, 9, 2);
        x.woman(4, 0, 9);
        x.woman(5, 1, 0);
        x.groom(6, 0);
        x.groom(7, 1);
        Check.tell(x, 1, "ask 42; ask 17;");
        return x;
    }

    private static void withoutLaw() {
        VeiledLandaus x = town();
        CHECK.due("P16 held to 1000", x.yes(0, 0, 0, 0), 1000);
        CHECK.due("P16 not pledged", x.yes(1, 0, 0, 0), 800);
        CHECK.due("P16 rote", x.yes(0, 1, 0, 2), 230);
        CHECK.due("P17 counts 1", x.counts(0, 1, 1, 0, true), 1);
        CHECK.due("P17 counts 1", x.counts(0, 1, 1, 0, false), 1);
        CHECK.due("P15 joy of her", x.who(0, 10), 6);
        CHECK.due("P15 joy of another", x.who(0, 11), -4);
        CHECK.due("P15 joy", x.who(0, 12), -3);
    }

    /** What E is for yes, counts and joy of groom 1 and woman 0. */
    private static void values(VeiledLandaus x, String e, int yes, int counts, int joy) {
        CHECK.sound(x, 0, "yes " + e + "; counts " + e + "; joy " + e + ";", 3);
        CHECK.due("P16 " + e, x.yes(1, 0, 1, 2), yes);
        CHECK.due("P17 " + e, x.counts(1, 0, 1, 2, true), counts);
        CHECK.due("P15 " + e, x.who(1, 10), joy);
    }

    private static void names() {
        VeiledLandaus x = town();
        values(x, "step", 3, 3, 3);
        values(x, "heart", 9, 9, 9);
        values(x, "rote", 2, 2, 2);
        values(x, "she", 0, 0, 0);
        values(x, "said", 0, 1, 0);
        values(x, "question", 17, 17, 0);
        values(x, "place", 2, 2, 0);
        values(x, "nerve", 7, 7, 7);
        values(x, "year", 0, 0, 0);
        values(x, "children", 0, 0, 0);
        values(x, "glad+7", 7, 7, 7);
        x.set(4, 1, 0);
        values(x, "she", 1, 1, 1);
        x.set(5, 1, 11);
        values(x, "glad", 11, 11, 11);
        x.years(13);
        values(x, "year", 13, 13, 13);
        CHECK.due("P17 said no", x.counts(1, 0, 0, 0, false), 13);
        Check.tell(x, 0, "counts 3 - 5*(said)");
        CHECK.due("P12 no ( in E", x.fault(1), 13);
        Check.tell(x, 0, "counts 3-said*5;");
        CHECK.due("P17 said yes", x.counts(1, 0, 0, 0, true), -2);
        CHECK.due("P17 said no", x.counts(1, 0, 0, 0, false), 3);
    }

    private static void firstLine() {
        VeiledLandaus x = town();
        CHECK.sound(x, 0, "yes 1 when step=4; joy 3; yes 2 when step=3 and question=42; yes 3 when step=3; yes 4; yes 5;", 6);
        CHECK.due("P16 the first that is so", x.yes(0, 0, 0, 0), 2);
        CHECK.due("P16 the first that is so", x.yes(0, 0, 1, 0), 3);
        CHECK.due("P16 the first that is so", x.yes(0, 1, 0, 0), 1);
        CHECK.due("P16 the first without when", x.yes(0, 2, 0, 0), 4);
        CHECK.due("P15 joy", x.who(0, 10), 3);
        CHECK.due("P17 no line", x.counts(0, 0, 0, 0, true), 1);
        CHECK.sound(x, 0, "yes 1 when step=4; counts 2 when said=1;", 2);
        CHECK.due("P16 none is so", x.yes(1, 0, 0, 0), 800);
        CHECK.due("P17 none is so", x.counts(1, 0, 0, 0, false), 1);
        CHECK.due("P17 so", x.counts(1, 0, 0, 0, true), 2);
    }

    private static void reckoning() {
        VeiledLandaus x = town();
        values(x, "2+3*4", 14, 14, 14);
        values(x, "20-3-4", 13, 13, 13);
        values(x, "2*3+4*5-6", 20, 20, 20);
        values(x, "7/2*3", 9, 9, 9);
        values(x, "3*7/2", 10, 10, 10);
        values(x, "100/7/2", 7, 7, 7);
        values(x, "1+6/4*2-1", 2, 2, 2);
        CHECK.sound(x, 0, "joy 0-1+0*step-7/2; counts 0*1-7; yes 0-1;", 3);
        CHECK.due("P15 less", x.who(0, 10), -4);
        CHECK.due("P17 less", x.counts(0, 0, 0, 0, true), -7);
        CHECK.due("P16 held to 0", x.yes(0, 0, 0, 0), 0);
        x.set(5, 0, -7);
        CHECK.sound(x, 0, "joy glad/2; counts glad*3/2;", 2);
        CHECK.due("P15 towards 0", x.who(0, 10), -3);
        CHECK.due("P17 towards 0", x.counts(0, 0, 0, 0, true), -10);
        values(x, "9999", 1000, 99, 20);
        CHECK.sound(x, 0, "joy 0-9999; counts 0-9999; yes 1001;", 3);
        CHECK.due("P15 held", x.who(0, 10), -20);
        CHECK.due("P17 held", x.counts(0, 0, 0, 0, true), -99);
        CHECK.due("P16 held", x.yes(0, 0, 0, 0), 1000);
        // 9999 * 9999 * 9999 wraps
        int wrapped = 9999 * 9999 * 9999;
        CHECK.sound(x, 0, "yes 1 when 9999*9999*9999/1000 = 0-" + -(wrapped / 1000) / 1000 + "*1000-" + -(wrapped / 1000) % 1000 + "; yes 2;", 2);
        CHECK.due("P16 wraps", x.yes(0, 0, 0, 0), wrapped < 0 ? 1 : 2);
    }

    private static void when(VeiledLandaus x, String b, boolean is) {
        CHECK.sound(x, 0, "joy 1 when " + b + "; joy 2;", 2);
        CHECK.due("P15 when " + b, x.who(0, 10), is ? 1 : 2);
    }

    private static void conditions() {
        VeiledLandaus x = town();
        when(x, "1<2", true);
        when(x, "2<2", false);
        when(x, "2=2", true);
        when(x, "2=3", false);
        when(x, "3>2", true);
        when(x, "2>2", false);
        when(x, "not 1=1", false);
        when(x, "not not 1=1", true);
        when(x, "1=1 or 1=2 and 1=3", true);
        when(x, "(1=1 or 1=2) and 1=3", false);
        when(x, "1=3 and 1=2 or 1=1", true);
        when(x, "1=3 and (1=2 or 1=1)", false);
        when(x, "not 1=2 and 1=2", false);
        when(x, "not (1=2 and 1=2)", true);
        when(x, "not 1=1 or 1=1", true);
        when(x, "not (1=1 or 1=1)", false);
        when(x, "1=2 or 1=2 or 3=3 and 2=2 and 1=1", true);
        when(x, "1+1=2*1 and 7/2=3", true);
        when(x, "0-1<0", true);
        when(x, "((((((((1=1))))))))", true);
        when(x, "not(not(not(not 1=1)))", true);
    }

    private static void wrong() {
        VeiledLandaus x = town();
        CHECK.due("P15 no such groom", x.who(2, 0), -100);
        CHECK.due("P15 no such groom", x.who(-1, 0), -100);
        CHECK.due("P15 another what", x.who(0, 6), -100);
        CHECK.due("P15 another what", x.who(0, 9), -100);
        CHECK.due("P15 another what", x.who(0, -1), -100);
        CHECK.due("P15 no such woman", x.who(0, 13), -100);
        CHECK.due("P15 no such woman", x.who(0, Integer.MIN_VALUE), -100);
        int[][] none = {{2, 0, 0, 0}, {-1, 0, 0, 0}, {0, 3, 0, 0}, {0, -1, 0, 0}, {0, 0, 2, 0}, {0, 0, -1, 0},
            {0, 0, 0, 3}, {0, 0, 0, -1}};
        for (int[] n : none) {
            CHECK.due("P16 none such", x.yes(n[0], n[1], n[2], n[3]), -1);
            CHECK.due("P17 none such", x.counts(n[0], n[1], n[2], n[3], true), -100);
        }
    }
}
