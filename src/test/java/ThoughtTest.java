/** Promises 19 to 22: weddings and years in thought. */
public final class ThoughtTest {
    private static final Check CHECK = new Check("ThoughtTest");

    public static void main(String[] args) {
        woulds();
        goesOn();
        tellsMost();
        sentBeside();
        CHECK.close();
    }

    private static VeiledLandaus town() {
        VeiledLandaus x = new VeiledLandaus();
        int[] hearts = {0, 9, 5, 2, 7, 1};
        for (int i = 0; i < 6; i++) x.woman(i, hearts[i], 0);
        x.groom(3, 2);
        x.groom(4, 0);
        return x;
    }

    private static void woulds() {
        VeiledLandaus x = town();
        Check.tell(x, 0, "yes 499+step; counts 1 when said=1; counts 0-1;");
        Check.tell(x, 1, "ask 1; ask 2; ask 3;");
        CHECK.due("P19 yes from 500 on", x.would(0, 0, 1, 2, 0), 1);
        CHECK.due("P19 points", x.would(0, 0, 1, 2, 1), 3);
        Check.tell(x, 0, "yes 499; counts 1 when said=1; counts 0-1;");
        CHECK.due("P19 nobody says yes: the first", x.would(0, 5, 1, 2, 0), 5);
        CHECK.due("P19 points", x.would(0, 5, 1, 2, 1), -3);
        x.cough(2, true);
        CHECK.due("P19 she coughs", x.would(0, 5, 1, 2, 0), 2);
        CHECK.due("P19 points", x.would(0, 5, 1, 2, 1), 7);
        CHECK.due("P19 nothing stays: coughs", x.look(4), 4);
        CHECK.due("P19 nothing stays: book", x.look(6), 0);
        CHECK.due("P19 nothing stays: state", x.look(7), 0);
        CHECK.due("P19 nothing stays: town", x.look(3), 0);
        CHECK.due("P19 nothing stays: undo", x.look(12), 1);
        x.wed(0, 5, 1, 2);
        CHECK.due("P19 with a wife, of the wed", x.would(0, x.who(0, 2), 0, 3, 1), -3);
        CHECK.due("P19 alike", x.would(0, 1, 1, 2, 0), -10000);
        CHECK.due("P19 alike", x.would(0, 1, 2, 2, 0), -10000);
        CHECK.due("P19 no such woman", x.would(0, 1, 2, 6, 0), -10000);
        CHECK.due("P19 no such woman", x.would(0, -1, 2, 3, 0), -10000);
        CHECK.due("P19 no such groom", x.would(2, 0, 1, 2, 0), -10000);
        CHECK.due("P19 another what", x.would(0, 0, 1, 2, 2), -10000);
        CHECK.due("P19 another what", x.would(0, 0, 1, 2, -1), -10000);
        Check.tell(x, 0, "counts place; yes 1000 when place=1;");
        CHECK.due("P19 by landau", x.would(1, 1, 3, 4, 0), 4);
    }

    private static void goesOn() {
        VeiledLandaus x = town();
        Check.tell(x, 0, "joy 20 when children<3; joy 0-20;");
        Check.tell(x, 2, "in 0 cough 2; in 0 wed 0 1 2 3; in 1 wed 1 0 4 5; in 30 part 0;");
        // groom 0 takes 2, to whom he is pledged: 20, 40, 60, 80 (a child), 99, 99, then three children
        CHECK.due("P20 town", x.goes(1, 0), -3);
        CHECK.due("P20 wives", x.goes(1, 3), 1);
        CHECK.due("P20 glad", x.goes(1, 2), 20);
        CHECK.due("P20 town", x.goes(2, 0), -6);
        CHECK.due("P20 wives", x.goes(2, 3), 2);
        CHECK.due("P20 glad", x.goes(2, 2), 60);
        CHECK.due("P20 no child yet at 60", x.goes(3, 1), 0);
        CHECK.due("P20 a child at 80", x.goes(4, 1), 1);
        CHECK.due("P20 another, and one of his", x.goes(5, 1), 3);
        CHECK.due("P20 three", x.goes(6, 1), 5);
        CHECK.due("P20 glad", x.goes(6, 2), 198);
        CHECK.due("P20 less glad, 79 lets none come", x.goes(7, 1), 6);
        CHECK.due("P20 glad", x.goes(7, 2), 178);
        CHECK.due("P20 parted", x.goes(31, 3), 1);
        CHECK.due("P20 parted: glad 0", x.goes(31, 2), -99);
        CHECK.due("P20 sixty", x.goes(60, 1), 6);
        CHECK.due("P20 nothing stays: year", x.look(2), 0);
        CHECK.due("P20 nothing stays: town", x.look(3), 0);
        CHECK.due("P20 nothing stays: coughs", x.look(4), 0);
        CHECK.due("P20 nothing stays: free", x.look(5), 63);
        CHECK.due("P20 nothing stays: book", x.look(6), 0);
        CHECK.due("P20 nothing stays: state", x.look(7), 0);
        CHECK.due("P20 nothing stays: undo", x.look(12), 0);
        CHECK.due("P20 0", x.goes(0, 0), -10000);
        CHECK.due("P20 61", x.goes(61, 0), -10000);
        CHECK.due("P20 another what", x.goes(1, 4), -10000);
        CHECK.due("P20 another what", x.goes(1, -1), -10000);
        VeiledLandaus y = town();
        Check.tell(y, 0, "joy 20;");
        y.wed(0, 1, 2, 3);
        CHECK.due("P20 exactly 80 is 500", y.goes(4, 1), 1);
        CHECK.due("P20 twenty children at most", y.goes(60, 1), 20);
        Check.tell(y, 0, "joy 1 when glad<79; joy 0;");
        y.set(5, 0, 78);
        CHECK.due("P20 79 is 495", y.goes(30, 1), 0);
    }

    private static void tellsMost() {
        VeiledLandaus x = town();
        CHECK.due("P21 no questions", x.tells(0, 0, 1, 2, 0), -1);
        CHECK.due("P21 no questions", x.tells(0, 0, 1, 2, 1), -1);
        Check.tell(x, 1, "ask 10; ask 30; ask 20; ask 30;");
        Check.tell(x, 0, "yes 500 when she=1; yes 500+question+place;");
        CHECK.due("P21 line", x.tells(0, 0, 1, 2, 0), 1);
        CHECK.due("P21 far", x.tells(0, 0, 1, 2, 1), 30);
        CHECK.due("P21 her landau", x.tells(0, 2, 1, 0, 1), 31);
        CHECK.due("P21 not among them", x.tells(0, 0, 1, 3, 0), -1);
        CHECK.due("P21 not among them", x.tells(0, 0, 1, 3, 1), -1);
        Check.tell(x, 0, "yes 500 when she=1; yes 500-question when place=0; yes 500+5;");
        CHECK.due("P21 nearest on either side", x.tells(0, 0, 2, 3, 1), 5);
        CHECK.due("P21 the least line", x.tells(0, 0, 2, 3, 0), 0);
        Check.tell(x, 0, "yes 500;");
        CHECK.due("P21 all alike", x.tells(0, 0, 2, 3, 0), 0);
        CHECK.due("P21 all alike", x.tells(0, 0, 2, 3, 1), 0);
        CHECK.due("P21 alike women", x.tells(0, 2, 2, 3, 0), -1);
        CHECK.due("P21 no such woman", x.tells(0, 2, 3, 6, 0), -1);
        CHECK.due("P21 no such groom", x.tells(2, 0, 2, 3, 0), -1);
        CHECK.due("P21 another what", x.tells(0, 0, 2, 3, 2), -1);
        CHECK.due("P21 another what", x.tells(0, 0, 2, 3, -1), -1);
    }

    private static void sentBeside() {
        VeiledLandaus x = town();
        CHECK.due("P22 all alike: the least set", x.sent(0, 0), 3);
        CHECK.due("P22 how many more", x.sent(0, 1), 0);
        Check.tell(x, 1, "ask 1;");
        Check.tell(x, 0, "counts 50-10*place when step=0; counts 3 when step=3; counts 4 when step=4 and place=2;"
            + "counts 6 when step=4; counts 2 when step=2; counts 7;");
        // hers 2; 0: 50, 30; 1: 7; 3: 3, 3; 4: 6, 4; 5: 7
        CHECK.due("P22 the set", x.sent(0, 0), 8 + 16);
        CHECK.due("P22 below 0", x.sent(0, 1), -2);
        x.cough(2, true);
        x.cough(4, true);
        // hers 12; 4: 16, 14
        CHECK.due("P22 who coughs", x.sent(0, 0), 2 + 8);
        CHECK.due("P22 more", x.sent(0, 1), 5);
        CHECK.due("P22 nothing stays", x.look(4), 20);
        // for groom 1 she is 0, with 40 in the second
        CHECK.due("P22 of another groom", x.sent(1, 1), 33);
        CHECK.due("P22 of another groom", x.sent(1, 0), 2 + 8);
        x.cough(4, false);
        x.cough(2, false);
        x.wed(0, 3, 1, 5);
        CHECK.due("P22 only who is not wed", x.sent(0, 0), x.who(0, 2) == 1 ? 8 + 16 : 2 + 16);
        VeiledLandaus y = new VeiledLandaus();
        y.woman(0, 0, 0);
        y.woman(0, 0, 0);
        y.groom(0, 0);
        CHECK.due("P22 not two", y.sent(0, 0), -10000);
        y.woman(0, 0, 0);
        CHECK.due("P22 two", y.sent(0, 0), 6);
        y.wed(0, 0, 1, 2);
        CHECK.due("P22 she may be wed", y.sent(0, 0), 6);
        y.part(0);
        y.wed(0, 1, 0, 2);
        CHECK.due("P22 not two who are not wed", y.sent(0, 0), -10000);
        CHECK.due("P22 no such groom", y.sent(1, 0), -10000);
        CHECK.due("P22 no such groom", y.sent(-1, 0), -10000);
        CHECK.due("P22 another what", x.sent(0, 2), -10000);
        CHECK.due("P22 another what", x.sent(0, -1), -10000);
    }
}
