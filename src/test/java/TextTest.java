/** Promises 12 and 13: texts and their faults. */
public final class TextTest {
    private static final Check CHECK = new Check("TextTest");

    public static void main(String[] args) {
        kinds();
        tokens();
        questions();
        years();
        sisters();
        laws();
        depth();
        lines();
        stays();
        CHECK.close();
    }

    private static VeiledLandaus town() {
        VeiledLandaus x = new VeiledLandaus();
        for (int i = 0; i < 4; i++) x.woman(i, i, i);
        x.groom(0, 0);
        x.groom(0, 1);
        return x;
    }

    private static String times(String s, int n) {
        return s.repeat(n);
    }

    private static void kinds() {
        VeiledLandaus x = town();
        CHECK.faulty(x, 4, "ask 1;", 0, -1);
        CHECK.due("P12 the tape is empty", x.end(1), false);
        CHECK.faulty(x, -1, "ask 1;", 0, -1);
        CHECK.faulty(x, 1, "ask 1", 1, 5);
        CHECK.due("P13 another what", x.fault(2), -1);
        CHECK.due("P13 another what", x.fault(-1), -1);
        CHECK.due("P13 is of the latest", x.text(4), -1);
        CHECK.due("P13 is of the latest", x.fault(0), 0);
        CHECK.sound(x, 0, "", 0);
        CHECK.sound(x, 1, " \n ", 0);
        CHECK.faulty(x, 0, "ask 1;", 1, 0);
        CHECK.faulty(x, 1, "in 1 part 0;", 1, 0);
        CHECK.faulty(x, 2, "ask 1;", 1, 0);
        CHECK.faulty(x, 3, "yes 1;", 1, 0);
    }

    private static void tokens() {
        VeiledLandaus x = town();
        CHECK.sound(x, 1, "ask1;ask\n2\n;", 2);
        CHECK.sound(x, 1, "ask 0099;", 1);
        CHECK.faulty(x, 1, "ask 00001;", 1, 4);
        CHECK.faulty(x, 1, "asks 1;", 1, 0);
        CHECK.faulty(x, 1, "as k 1;", 1, 0);
        CHECK.faulty(x, 1, "Ask 1;", 1, 0);
        CHECK.faulty(x, 1, "askA 1;", 1, 0);
        CHECK.faulty(x, 1, "askZ 1;", 1, 0);
        CHECK.faulty(x, 1, "askz 1;", 1, 0);
        CHECK.faulty(x, 1, "ask[1;", 1, 3);
        CHECK.faulty(x, 1, "ask@1;", 1, 3);
        CHECK.faulty(x, 1, "ask`1;", 1, 3);
        CHECK.faulty(x, 1, "ask{1;", 1, 3);
        CHECK.faulty(x, 1, "ask:1;", 1, 3);
        CHECK.faulty(x, 0, times(";", 400), 1, 0);
        CHECK.faulty(x, 0, times("(", 400), 1, 0);
        CHECK.sound(x, 0, "joy " + times("1+", 197) + "1;", 1);
        CHECK.faulty(x, 0, "joy " + times("1+", 198), 1, 400);
        CHECK.faulty(x, 0, "joy " + times("1*", 197) + "1 ", 1, 400);
        CHECK.sound(x, 0, "joy 1" + times("/1", 197) + ";", 1);
        CHECK.faulty(x, 1, times("a", 400), 1, 0);
        CHECK.faulty(x, 1, times("1", 400), 1, 0);
        CHECK.sound(x, 1, times(" ", 394) + "ask 1;", 1);
        CHECK.faulty(x, 1, "ask\t1;", 1, 3);
        CHECK.faulty(x, 1, "ask 1,", 1, 5);
        CHECK.faulty(x, 1, "ask 1 1;", 1, 6);
        CHECK.faulty(x, 1, "ask -1;", 1, 4);
        CHECK.faulty(x, 1, "ask 1;;", 1, 6);
        CHECK.faulty(x, 1, "ask 1; ask", 1, 10);
        CHECK.faulty(x, 1, "ask 1; ask   ", 1, 13);
        CHECK.faulty(x, 1, "\u00e9", 1, 0);
        CHECK.faulty(x, 1, "ask 1;\u0000", 1, 6);
        CHECK.faulty(x, 1, "ask 1;\r", 1, 6);
        CHECK.sound(x, 0, "yes 1when 1<2and not(1=2)or 3>2;", 1);
    }

    private static void questions() {
        VeiledLandaus x = town();
        CHECK.sound(x, 1, "ask 0; ask 99;", 2);
        CHECK.faulty(x, 1, "ask 100;", 2, 4);
        CHECK.faulty(x, 1, "ask 9999", 2, 4);
        CHECK.faulty(x, 1, "ask ;", 1, 4);
        CHECK.faulty(x, 1, "ask ask;", 1, 4);
    }

    private static void years() {
        VeiledLandaus x = town();
        CHECK.sound(x, 2, "in 0 wed 1 0 1 2; in 999 cough 3; in 5 part 1;", 3);
        CHECK.faulty(x, 2, "in 1000 part 0;", 2, 3);
        CHECK.faulty(x, 2, "in 1 wed 2 0 1 2;", 2, 9);
        CHECK.faulty(x, 2, "in 1 wed 1 4 1 2;", 2, 11);
        CHECK.faulty(x, 2, "in 1 wed 1 0 4 2;", 2, 13);
        CHECK.faulty(x, 2, "in 1 wed 1 0 1 4;", 2, 15);
        CHECK.faulty(x, 2, "in 1 wed 1 2 2 3;", 2, 13);
        CHECK.faulty(x, 2, "in 1 wed 1 2 3 2;", 2, 15);
        CHECK.faulty(x, 2, "in 1 wed 1 2 3 3;", 2, 15);
        CHECK.faulty(x, 2, "in 1 wed 1 2 3;", 1, 14);
        CHECK.faulty(x, 2, "in 1 cough 4;", 2, 11);
        CHECK.faulty(x, 2, "in 1 part 2;", 2, 10);
        CHECK.faulty(x, 2, "in 1 sing 2;", 1, 5);
        CHECK.faulty(x, 2, "in 1 in 2;", 1, 5);
        CHECK.faulty(x, 2, "in wed 0 1 2 3;", 1, 3);
        CHECK.faulty(x, 2, "in 1", 1, 4);
        CHECK.faulty(x, 2, "in 1 part 0 0;", 1, 12);
        CHECK.faulty(new VeiledLandaus(), 2, "in 0 cough 0;", 2, 11);
    }

    private static void sisters() {
        VeiledLandaus x = town();
        CHECK.sound(x, 3, "woman 0 sister 3; woman 3 sister 0;", 2);
        CHECK.faulty(x, 3, "woman 4 sister 3;", 2, 6);
        CHECK.faulty(x, 3, "woman 3 sister 4;", 2, 15);
        CHECK.faulty(x, 3, "woman 3 sister 3;", 2, 15);
        CHECK.faulty(x, 3, "woman 3 woman 2;", 1, 8);
        CHECK.faulty(x, 3, "woman 3 sister;", 1, 14);
    }

    private static void laws() {
        VeiledLandaus x = town();
        CHECK.sound(x, 0, "yes step+heart-rote*she/2*said/3; counts question+place; joy nerve*year-children*glad;", 3);
        CHECK.sound(x, 0, "joy 1 when 1=1 or 2>1 and not (3<2 or 4=4);", 1);
        CHECK.faulty(x, 0, "yes;", 1, 3);
        CHECK.faulty(x, 0, "yes -1;", 1, 4);
        CHECK.faulty(x, 0, "yes (1);", 1, 4);
        CHECK.faulty(x, 0, "yes 1 2;", 1, 6);
        CHECK.faulty(x, 0, "yes 1+;", 1, 6);
        CHECK.faulty(x, 0, "yes 1*/2;", 1, 6);
        CHECK.faulty(x, 0, "yes 1/step;", 1, 6);
        CHECK.faulty(x, 0, "yes 1/0;", 2, 6);
        CHECK.faulty(x, 0, "yes 1/;", 1, 6);
        CHECK.faulty(x, 0, "yes 1/+2;", 1, 6);
        CHECK.faulty(x, 0, "yes 1/*2;", 1, 6);
        CHECK.faulty(x, 0, "yes 1//2;", 1, 6);
        CHECK.faulty(x, 0, "yes 1/ when 1=1;", 1, 7);
        CHECK.faulty(x, 0, "yes 1/2/000;", 2, 8);
        CHECK.faulty(x, 0, "yes 1/00000;", 1, 6);
        CHECK.faulty(x, 0, "yes 1/", 1, 6);
        CHECK.faulty(x, 0, "yes 0 when;", 1, 10);
        CHECK.faulty(x, 0, "yes 0 when 1;", 1, 12);
        CHECK.faulty(x, 0, "yes 0 when 1<;", 1, 13);
        CHECK.faulty(x, 0, "yes 0 when 1<2<3;", 1, 14);
        CHECK.faulty(x, 0, "yes 0 when 1<2 or;", 1, 17);
        CHECK.faulty(x, 0, "yes 0 when (1<2;", 1, 15);
        CHECK.faulty(x, 0, "yes 0 when 1<2);", 1, 14);
        CHECK.faulty(x, 0, "yes 0 when (1)<2;", 1, 13);
        CHECK.faulty(x, 0, "yes 0 when not;", 1, 14);
        CHECK.faulty(x, 0, "yes 0 when 1<2 not;", 1, 15);
        CHECK.faulty(x, 0, "yes 0 when 1/0<2;", 2, 13);
        CHECK.faulty(x, 0, "yes 0 when 1<yes;", 1, 13);
        CHECK.faulty(x, 0, "when 1;", 1, 0);
        CHECK.faulty(x, 0, "yes 1; foo", 1, 7);
        CHECK.faulty(x, 0, "yes 1/0; yes;", 2, 6);
        CHECK.faulty(x, 0, "yes ; yes 1/0;", 1, 4);
        CHECK.sound(x, 0, "yes 9999;", 1);
    }

    private static void depth() {
        VeiledLandaus x = town();
        CHECK.sound(x, 0, "yes 1 when " + times("(", 8) + "1=1" + times(")", 8) + ";", 1);
        CHECK.sound(x, 0, "yes 1 when " + times("not ", 8) + "1=1;", 1);
        CHECK.sound(x, 0, "yes 1 when " + times("not(", 4) + "1=1" + times(")", 4) + ";", 1);
        CHECK.faulty(x, 0, "yes 1 when " + times("(", 9) + "1=1" + times(")", 9) + ";", 3, 19);
        CHECK.faulty(x, 0, "yes 1 when " + times("not ", 9) + "1=1;", 3, 43);
        CHECK.faulty(x, 0, "yes 1 when " + times("not(", 4) + "not 1=1", 3, 27);
        CHECK.faulty(x, 0, "yes 1 when " + times("not(", 4) + "(1=1", 3, 27);
        CHECK.sound(x, 0, "yes 1 when " + times("not (not 1=1) and ", 9) + "1=1;", 1);
        CHECK.sound(x, 0, "yes 1 when " + times("(1=1) or ", 20) + "1=1;", 1);
        CHECK.sound(x, 0, "yes 1 when " + times("(", 7) + "not 1=1 and not 1=1 or (1=1)" + times(")", 7) + ";", 1);
        CHECK.faulty(x, 0, "yes 1 when " + times("(", 8) + "1=1 and not 1=1", 3, 27);
        // where a ( cannot stand at all, that is the lesser fault
        CHECK.faulty(x, 0, "yes 1 when " + times("(", 8) + "1=(", 1, 21);
    }

    private static void lines() {
        VeiledLandaus x = town();
        CHECK.sound(x, 0, times("joy 1;", 16), 16);
        CHECK.faulty(x, 0, times("joy 1;", 17), 3, 96);
        CHECK.faulty(x, 0, times("joy 1;", 16) + "foo", 1, 96);
        CHECK.faulty(x, 0, times("joy 1;", 16) + " yes", 3, 97);
        CHECK.sound(x, 1, times("ask 1;", 16), 16);
        CHECK.faulty(x, 1, times("ask 1;", 16) + "ask", 3, 96);
        CHECK.faulty(x, 1, times("ask 1;", 16) + "yes", 1, 96);
        CHECK.faulty(x, 1, times("ask 1;", 15) + "ask 100;ask 1;", 2, 94);
        CHECK.sound(x, 2, times("in 1 cough 0;", 16), 16);
        CHECK.faulty(x, 2, times("in 1 cough 0;", 17), 3, 208);
        CHECK.sound(x, 3, times("woman 0 sister 1;", 16), 16);
        CHECK.faulty(x, 3, times("woman 0 sister 1;", 17), 3, 272);
    }

    private static void stays() {
        VeiledLandaus x = town();
        Check.tell(x, 0, "joy 7; yes 8;");
        Check.tell(x, 1, "ask 7; ask 8; ask 9;");
        Check.tell(x, 2, "in 0 cough 1;");
        Check.tell(x, 3, "woman 1 sister 2;");
        x.years(1);
        CHECK.faulty(x, 0, "joy 3; yes", 1, 10);
        CHECK.faulty(x, 1, "ask 1; ask", 1, 10);
        CHECK.faulty(x, 2, "in 1 cough 0; in", 1, 16);
        CHECK.faulty(x, 3, "woman 0 sister 1; woman", 1, 23);
        CHECK.due("P12 a fault forgets nothing", x.look(12), 1);
        CHECK.due("P12 law stays", x.look(8), 2);
        CHECK.due("P12 law stays", x.who(0, 11), 7);
        CHECK.due("P12 questions stay", x.look(9), 3);
        CHECK.due("P12 years stay", x.look(10), 1);
        CHECK.due("P12 sisters stay", x.of(1, 4), 4);
        CHECK.sound(x, 0, "", 0);
        CHECK.sound(x, 3, "", 0);
        CHECK.due("P12 law and sisters forget nothing", x.look(12), 1);
        CHECK.due("P12 the law is empty", x.who(0, 11), -3);
        CHECK.due("P12 no sisters", x.of(1, 4), 0);
        CHECK.sound(x, 1, "ask 1;", 1);
        CHECK.due("P12 questions forget", x.look(12), 0);
        x.years(1);
        CHECK.sound(x, 2, "", 0);
        CHECK.due("P12 years forget", x.look(12), 0);
    }
}
