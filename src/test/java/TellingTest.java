/** Promises 1 to 5, 8, 10, 11, 14 and 42: what is told by hand, and looking at it. */
public final class TellingTest {
    private static final Check CHECK = new Check("TellingTest");

    public static void main(String[] args) {
        newObject();
        states();
        women();
        grooms();
        sets();
        coughs();
        tape();
        ofWomen();
        looks();
        CHECK.close();
    }

    private static void newObject() {
        VeiledLandaus x = new VeiledLandaus();
        CHECK.due("P1 NONE", VeiledLandaus.NONE, -1);
        for (int i = 0; i <= 12; i++) CHECK.due("P1 look(" + i + ")", x.look(i), 0);
        CHECK.due("P1 undo", x.undo(), false);
        CHECK.due("P1 image", x.image(false), false);
        CHECK.due("P1 fault(0)", x.fault(0), 0);
        CHECK.due("P1 fault(1)", x.fault(1), -1);
        CHECK.due("P1 down(0)", x.down(0), 12);
        CHECK.due("P1 down(1)", x.down(1), 3);
        CHECK.due("P1 stop", x.stop(0), -1);
        CHECK.due("P1 book", x.book(0, 0), -10000);
        VeiledLandaus y = new VeiledLandaus();
        x.woman(1, 2, 3);
        CHECK.due("P1 another object is untouched", y.look(0), 0);
    }

    private static void states() {
        VeiledLandaus x = new VeiledLandaus();
        CHECK.due("P2 first", x.state(77), 0);
        CHECK.due("P2 then", x.state(Integer.MIN_VALUE), 77);
        CHECK.due("P2 last", x.state(-1), Integer.MIN_VALUE);
        CHECK.due("P2 look", x.look(7), -1);
        x.years(1);
        CHECK.due("P2 before", x.look(12), 1);
        x.state(-1);
        CHECK.due("P2 forgets what can be undone", x.look(12), 0);
    }

    private static void women() {
        VeiledLandaus x = new VeiledLandaus();
        int[][] wrong = {{-1, 0, 0}, {0, -1, 0}, {0, 0, -1}, {10, 0, 0}, {0, 10, 0}, {0, 0, 10}};
        for (int[] w : wrong) CHECK.due("P3 wrong", x.woman(w[0], w[1], w[2]), -1);
        CHECK.due("P3 none came", x.look(0), 0);
        x.years(1);
        x.woman(0, 0, 10);
        CHECK.due("P3 a wrong one forgets nothing", x.look(12), 1);
        CHECK.due("P3 the first", x.woman(0, 9, 0), 0);
        CHECK.due("P3 forgets", x.look(12), 0);
        for (int i = 1; i < 12; i++) CHECK.due("P3 more", x.woman(9, 0, 9), i);
        CHECK.due("P3 the 13th", x.woman(1, 1, 1), -1);
        CHECK.due("P3 how many", x.look(0), 12);
        CHECK.due("P3 not wed", x.look(5), 4095);
    }

    private static void grooms() {
        VeiledLandaus x = new VeiledLandaus();
        CHECK.due("P4 nobody to pledge to", x.groom(0, 0), -1);
        x.woman(1, 1, 1);
        CHECK.due("P4 nerve", x.groom(10, 0), -1);
        CHECK.due("P4 nerve", x.groom(-1, 0), -1);
        CHECK.due("P4 pledged", x.groom(0, 1), -1);
        CHECK.due("P4 pledged", x.groom(0, -1), -1);
        x.years(1);
        x.groom(0, 1);
        CHECK.due("P4 a wrong one forgets nothing", x.look(12), 1);
        for (int i = 0; i < 8; i++) CHECK.due("P4 more", x.groom(i, 0), i);
        CHECK.due("P4 forgets", x.look(12), 0);
        CHECK.due("P4 the 9th", x.groom(0, 0), -1);
        CHECK.due("P4 nerve is", x.who(7, 0), 7);
        CHECK.due("P4 pledged is", x.who(7, 1), 0);
        CHECK.due("P4 wife", x.who(7, 2), -1);
        for (int i = 3; i <= 5; i++) CHECK.due("P4 at first", x.who(7, i), 0);
        CHECK.due("P4 how many", x.look(1), 8);
    }

    private static void sets() {
        VeiledLandaus x = new VeiledLandaus();
        x.woman(1, 2, 3);
        x.woman(1, 2, 3);
        x.groom(4, 0);
        for (int what = 0; what <= 2; what++) {
            CHECK.due("P5 woman 0", x.set(what, 0, 9), true);
            CHECK.due("P5 of", x.of(0, what), 9);
            CHECK.due("P5 beyond", x.set(what, 0, 10), false);
            CHECK.due("P5 below", x.set(what, 0, -1), false);
            CHECK.due("P5 no such", x.set(what, 2, 1), false);
            CHECK.due("P5 no such", x.set(what, -1, 1), false);
            CHECK.due("P5 the other stays", x.of(1, what), what + 1);
        }
        CHECK.due("P5 nerve", x.set(3, 0, 0), true);
        CHECK.due("P5 nerve is", x.who(0, 0), 0);
        CHECK.due("P5 nerve 10", x.set(3, 0, 10), false);
        CHECK.due("P5 no such groom", x.set(3, 1, 0), false);
        CHECK.due("P5 pledged", x.set(4, 0, 1), true);
        CHECK.due("P5 pledged is", x.who(0, 1), 1);
        CHECK.due("P5 pledged to none", x.set(4, 0, 2), false);
        CHECK.due("P5 glad", x.set(5, 0, -99), true);
        CHECK.due("P5 glad is", x.who(0, 3), -99);
        CHECK.due("P5 glad", x.set(5, 0, 99), true);
        CHECK.due("P5 too glad", x.set(5, 0, 100), false);
        CHECK.due("P5 too sad", x.set(5, 0, -100), false);
        CHECK.due("P5 another what", x.set(6, 0, 0), false);
        CHECK.due("P5 another what", x.set(-1, 0, 0), false);
        x.years(2);
        x.set(6, 0, 0);
        CHECK.due("P5 false forgets nothing", x.look(12), 2);
        x.set(5, 0, 99);
        CHECK.due("P5 true forgets", x.look(12), 0);
    }

    private static void coughs() {
        VeiledLandaus x = new VeiledLandaus();
        x.woman(0, 0, 0);
        x.woman(0, 0, 0);
        CHECK.due("P8 she coughs not yet", x.cough(1, false), false);
        CHECK.due("P8 cough", x.cough(1, true), true);
        CHECK.due("P8 again", x.cough(1, true), false);
        CHECK.due("P8 set", x.look(4), 2);
        CHECK.due("P8 of", x.of(1, 5), 1);
        CHECK.due("P8 other", x.of(0, 5), 0);
        CHECK.due("P8 no more", x.cough(1, false), true);
        CHECK.due("P8 empty", x.look(4), 0);
        CHECK.due("P8 no such", x.cough(2, true), false);
        CHECK.due("P8 no such", x.cough(-1, true), false);
        CHECK.due("P8 no such", x.cough(2, false), false);
        CHECK.due("P8 no book", x.look(6), 0);
        CHECK.due("P8 both can be undone", x.look(12), 2);
    }

    private static void tape() {
        VeiledLandaus x = new VeiledLandaus();
        for (int i = 1; i <= 20; i++) {
            CHECK.due("P10 feed", x.feed(0x20202020, 0x20202020, 0x20202020, 0x20202020, 0x20202020), 20 * i);
        }
        CHECK.due("P10 beyond 400", x.feed(0, 0, 0, 0, 0), -1);
        CHECK.due("P11 all", x.end(400), true);
        CHECK.due("P11 more than there are", x.end(401), false);
        CHECK.due("P11 below", x.end(-1), false);
        CHECK.due("P11 381", x.end(381), true);
        CHECK.due("P10 401", x.feed(0, 0, 0, 0, 0), -1);
        CHECK.due("P11 380", x.end(380), true);
        // ask 5;<blank, line end> .. 12 bytes more, the last ones with their highest bit
        CHECK.due("P10 400", x.feed(0x61736b20, 0x353b200a, 0x61736b39, 0x3b0a0a20, 0x20202080), 400);
        CHECK.due("P11 399", x.end(399), true);
        CHECK.due("P12 blanks alone are between", x.text(1), 2);
        CHECK.due("P12 the tape is empty", x.end(1), false);
        CHECK.due("P11 nought of nought", x.end(0), true);
        x.feed(0x61736b20, 0x353b200a, 0x61736b39, 0x3b0a0a20, 0x20202080);
        CHECK.due("P12 a sign above 127", x.text(1), -1);
        CHECK.due("P13 its place", x.fault(1), 19);
        x.years(1);
        x.feed(0, 0, 0, 0, 0);
        x.end(3);
        CHECK.due("P10 the tape forgets nothing", x.look(12), 1);
    }

    private static void ofWomen() {
        VeiledLandaus x = new VeiledLandaus();
        for (int i = 0; i < 4; i++) x.woman(i, i + 1, i + 2);
        CHECK.due("P14 step", x.of(3, 0), 3);
        CHECK.due("P14 heart", x.of(3, 1), 4);
        CHECK.due("P14 rote", x.of(3, 2), 5);
        CHECK.due("P14 wed", x.of(3, 3), -1);
        CHECK.due("P14 sisters", x.of(3, 4), 0);
        CHECK.due("P14 another what", x.of(3, 6), -2);
        CHECK.due("P14 another what", x.of(3, -1), -2);
        CHECK.due("P14 no such", x.of(4, 0), -2);
        CHECK.due("P14 no such", x.of(-1, 0), -2);
        Check.tell(x, 3, "woman 3 sister 0;woman 2 sister 3;woman 0 sister 3;");
        CHECK.due("P14 sisters of 3", x.of(3, 4), 5);
        CHECK.due("P14 sisters of 0", x.of(0, 4), 8);
        CHECK.due("P14 sisters of 1", x.of(1, 4), 0);
    }

    private static void looks() {
        VeiledLandaus x = new VeiledLandaus();
        for (int i = 0; i < 5; i++) x.woman(0, 0, 0);
        x.groom(0, 0);
        Check.tell(x, 0, "joy 1;joy 2;");
        Check.tell(x, 1, "ask 1;ask 2;ask 3;");
        Check.tell(x, 2, "in 1 cough 0;");
        Check.tell(x, 3, "woman 0 sister 1;woman 0 sister 1;woman 1 sister 0;woman 2 sister 0;");
        x.state(5);
        x.wed(0, 2, 3, 4);
        x.cough(4, true);
        CHECK.due("P42 women", x.look(0), 5);
        CHECK.due("P42 grooms", x.look(1), 1);
        CHECK.due("P42 year", x.look(2), 0);
        CHECK.due("P42 town", x.look(3), 1);
        CHECK.due("P42 coughs", x.look(4), 16);
        CHECK.due("P42 not wed", x.look(5), 31 - (1 << x.who(0, 2)));
        CHECK.due("P42 book: nine answers and a taking", x.look(6), 10);
        CHECK.due("P42 law", x.look(8), 2);
        CHECK.due("P42 questions", x.look(9), 3);
        CHECK.due("P42 years", x.look(10), 1);
        CHECK.due("P42 sisters", x.look(11), 4);
        CHECK.due("P42 undo", x.look(12), 2);
        int state = 5;
        for (int i = 0; i < 9; i++) state = 1664525 * state + 1013904223;
        CHECK.due("P42 state", x.look(7), state);
        CHECK.due("P42 another what", x.look(13), -10000);
        CHECK.due("P42 another what", x.look(-1), -10000);
    }
}
