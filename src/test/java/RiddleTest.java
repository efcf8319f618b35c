/** Promises 23 to 39: old men, plumes, bets, streets, kin, steps, carriages, offers and the game. */
public final class RiddleTest {
    private static final Check CHECK = new Check("RiddleTest");

    public static void main(String[] args) {
        oldMen();
        plumes();
        bets();
        streets();
        kin();
        alike();
        carriages();
        offers();
        games();
        forgetNothing();
        CHECK.close();
    }

    private static void oldMen() {
        VeiledLandaus x = new VeiledLandaus();
        CHECK.due("P24 nothing said", x.liars(0), 64);
        CHECK.due("P24 fewest", x.liars(1), 0);
        CHECK.due("P24 not sure", x.liars(15), -1);
        CHECK.due("P23 0 says 1 lies", x.man(0, 1, true), 1);
        CHECK.due("P24 ways", x.liars(0), 32);
        CHECK.due("P24 fewest", x.liars(1), 1);
        CHECK.due("P23 1 says 2 does not", x.man(1, 2, false), 2);
        CHECK.due("P23 2 says 0 lies", x.man(2, 0, true), 3);
        CHECK.due("P24 ways", x.liars(0), 16);
        CHECK.due("P23 3 says 3 does not: nothing new", x.man(3, 3, false), 4);
        CHECK.due("P24 ways", x.liars(0), 16);
        CHECK.due("P23 4 says 0 lies", x.man(4, 0, true), 5);
        CHECK.due("P23 4 says 1 lies", x.man(4, 1, true), 6);
        CHECK.due("P24 none can be: 0 and 1 are unlike", x.liars(0), 0);
        CHECK.due("P24 no way", x.liars(1), -1);
        CHECK.due("P24 no way", x.liars(10), -1);
        CHECK.due("P23 none is", x.man(-1, 99, false), 0);
        CHECK.due("P24 as at first", x.liars(0), 64);
        x.man(0, 1, true);
        x.man(1, 0, true);
        CHECK.due("P24 either", x.liars(10), -1);
        x.man(2, 0, true);
        x.man(3, 0, false);
        x.man(3, 3, false);
        CHECK.due("P24 still either", x.liars(12), -1);
        x.man(4, 4, false);
        CHECK.due("P23 seven", x.man(4, 5, false), 7);
        CHECK.due("P24 ways", x.liars(0), 4);
        CHECK.due("P24 fewest", x.liars(1), 2);
        for (int i = 8; i <= 10; i++) CHECK.due("P23 up to ten", x.man(0, 1, true), i);
        CHECK.due("P23 eleven", x.man(0, 1, true), -1);
        x.man(-1, 0, false);
        int[][] wrong = {{6, 0}, {0, 6}, {-2, 0}, {0, -1}};
        for (int[] w : wrong) CHECK.due("P23 wrong", x.man(w[0], w[1], true), -1);
        CHECK.due("P24 nothing was told", x.liars(0), 64);
        int[] whats = {-1, 2, 9, 16};
        for (int w : whats) CHECK.due("P24 another what", x.liars(w), -1);
        sureMen();
    }

    private static void sureMen() {
        VeiledLandaus x = new VeiledLandaus();
        // 0 says that 1 lies and that 2 lies; 1 says that 2 lies: so 1 and 2 are alike, and unlike: none
        x.man(0, 1, true);
        x.man(0, 2, true);
        x.man(1, 2, true);
        CHECK.due("P24 none", x.liars(0), 0);
        x.man(-1, 0, true);
        // if all who lie spoke true and the others lied, the same would be said: so nobody is ever SURE
        x.man(0, 1, false);
        x.man(1, 2, false);
        CHECK.due("P24 all three or none", x.liars(0), 16);
        CHECK.due("P24 fewest", x.liars(1), 0);
        CHECK.due("P24 not sure", x.liars(11), -1);
    }

    private static void plumes() {
        VeiledLandaus x = new VeiledLandaus();
        CHECK.due("P26 all", x.plumes(0), 216);
        CHECK.due("P26 least", x.plumes(1), 0);
        CHECK.due("P26 next", x.plumes(2), 12);
        CHECK.due("P25 123: one right", x.guess(123, 1, 0), 1);
        // two places wrong, of the four plumes that are not elsewhere right
        CHECK.due("P26 48 rows", x.plumes(0), 48);
        CHECK.due("P26 least", x.plumes(1), 3);
        CHECK.due("P25 555: none", x.guess(555, 0, 0), 2);
        CHECK.due("P26 fewer", x.plumes(0), 27);
        CHECK.due("P25 another", x.guess(3, 2, 1), 3);
        CHECK.due("P26 two and one elsewhere cannot be", x.plumes(0), 0);
        CHECK.due("P26 none", x.plumes(1), -1);
        CHECK.due("P26 none", x.plumes(2), -1);
        CHECK.due("P25 none is then", x.guess(-1, 9, 9), 0);
        CHECK.due("P26 all again", x.plumes(0), 216);
        x.guess(112, 0, 2);
        // the 1 can be at the third place alone, so a 2 (or two) is before it
        CHECK.due("P26 each counts once", x.plumes(0), 9);
        CHECK.due("P26 least", x.plumes(1), 21);
        x.guess(-1, 0, 0);
        x.guess(345, 3, 0);
        CHECK.due("P26 one", x.plumes(0), 1);
        CHECK.due("P26 that", x.plumes(1), 345);
        CHECK.due("P26 then any tells as much", x.plumes(2), 0);
        CHECK.due("P26 another what", x.plumes(3), -1);
        CHECK.due("P26 another what", x.plumes(-1), -1);
        int[][] wrong = {{600, 0, 0}, {60, 0, 0}, {6, 0, 0}, {556, 0, 0}, {1000, 0, 0}, {-2, 0, 0}, {0, 4, 0}, {0, -1, 0},
            {0, 0, 4}, {0, 0, -1}, {0, 2, 2}, {0, 1, 3}, {0, 3, 1}};
        for (int[] w : wrong) CHECK.due("P25 wrong", x.guess(w[0], w[1], w[2]), -1);
        for (int i = 2; i <= 8; i++) CHECK.due("P25 up to eight", x.guess(345, 3, 0), i);
        CHECK.due("P25 nine", x.guess(345, 3, 0), -1);
        CHECK.due("P26 one", x.plumes(0), 1);
    }

    private static void bets() {
        VeiledLandaus x = new VeiledLandaus();
        CHECK.due("P27 landau", x.bet(3, 200), -1);
        CHECK.due("P27 landau", x.bet(-2, 200), -1);
        CHECK.due("P27 odds", x.bet(0, 100), -1);
        CHECK.due("P27 odds", x.bet(0, 10000), -1);
        CHECK.due("P27 least", x.bet(0, 101), 1);
        CHECK.due("P27 most", x.bet(1, 9999), 2);
        CHECK.due("P28 a landau without odds", x.safe(300, 0), 0);
        CHECK.due("P28 its ways: the first", x.safe(300, 10), 0);
        CHECK.due("P28 its ways: the first", x.safe(300, 11), 0);
        CHECK.due("P28 its ways: the first", x.safe(300, 12), 300);
        CHECK.due("P27 more", x.bet(2, 9999), 3);
        // 294 * 1.01 = 296; 3 * 99.99 = 299
        CHECK.due("P28 back", x.safe(300, 0), 296);
        CHECK.due("P28 on 0 fewest", x.safe(300, 10), 294);
        CHECK.due("P28 on 1 fewest", x.safe(300, 11), 3);
        CHECK.due("P28 on 2 the rest", x.safe(300, 12), 3);
        CHECK.due("P28 three", x.safe(3, 0), 1);
        CHECK.due("P27 better odds", x.bet(0, 500), 4);
        CHECK.due("P27 worse odds", x.bet(2, 500), 5);
        CHECK.due("P28 best odds: 9 on 0", x.safe(11, 0), 45);
        CHECK.due("P28 on 0", x.safe(11, 10), 9);
        CHECK.due("P28 on 1", x.safe(11, 11), 1);
        CHECK.due("P28 on 2", x.safe(11, 12), 1);
        CHECK.due("P27 six", x.bet(0, 500), 6);
        CHECK.due("P27 seven", x.bet(0, 500), -1);
        CHECK.due("P28 2", x.safe(2, 0), -1);
        CHECK.due("P28 301", x.safe(301, 0), -1);
        int[] whats = {-1, 1, 9, 13};
        for (int w : whats) CHECK.due("P28 another what", x.safe(10, w), -1);
        CHECK.due("P27 none is then", x.bet(-1, 0), 0);
        CHECK.due("P28 nothing back", x.safe(3, 0), 0);
        for (int i = 0; i < 3; i++) x.bet(i, 111);
        // 9 bring 9, 10 bring 11: so 10 comes back for no stake below 10
        CHECK.due("P28 downwards", x.safe(29, 0), 9);
        CHECK.due("P28 downwards", x.safe(30, 0), 11);
        CHECK.due("P28 fewest", x.safe(29, 10), 9);
        x.bet(-1, 0);
        x.bet(0, 300);
        x.bet(1, 300);
        x.bet(2, 1000);
        // 8: 3, 3, 1 do; one is over, and goes on the third
        CHECK.due("P28 back", x.safe(8, 0), 9);
        CHECK.due("P28 fewest on 0", x.safe(8, 10), 3);
        CHECK.due("P28 then on 1", x.safe(8, 11), 3);
        CHECK.due("P28 the rest", x.safe(8, 12), 2);
    }

    private static void streets() {
        VeiledLandaus x = new VeiledLandaus();
        int[][] wrong = {{3, 3}, {10, 0}, {0, 10}, {-2, 0}, {0, -1}};
        for (int[] w : wrong) CHECK.due("P29 wrong", x.street(w[0], w[1]), -1);
        CHECK.due("P30 no street", x.ways(0, 9, 0), 0);
        CHECK.due("P30 no street", x.ways(0, 9, 1), -1);
        CHECK.due("P29 first", x.street(0, 1), 1);
        x.street(1, 2);
        x.street(2, 9);
        CHECK.due("P30 one", x.ways(0, 9, 0), 1);
        CHECK.due("P30 three streets", x.ways(0, 9, 1), 3);
        CHECK.due("P30 one way", x.ways(9, 0, 0), 0);
        CHECK.due("P30 one way", x.ways(9, 0, 1), -1);
        x.street(0, 3);
        x.street(3, 2);
        CHECK.due("P30 all by corner 2", x.ways(0, 9, 0), 1);
        CHECK.due("P30 two to corner 2", x.ways(0, 2, 0), 2);
        x.street(3, 9);
        CHECK.due("P30 two", x.ways(0, 9, 0), 2);
        CHECK.due("P30 shorter", x.ways(0, 9, 1), 2);
        x.street(0, 9);
        CHECK.due("P30 a beside b: by one", x.ways(0, 9, 0), 3);
        CHECK.due("P29 the same again", x.street(0, 9), 8);
        CHECK.due("P30 a beside b: by one", x.ways(0, 9, 0), 3);
        CHECK.due("P30 beside", x.ways(0, 9, 1), 1);
        for (int i = 9; i <= 16; i++) CHECK.due("P29 up to sixteen", x.street(9, i - 9), i);
        CHECK.due("P29 seventeen", x.street(9, 8), -1);
        CHECK.due("P30 alike", x.ways(1, 1, 0), -1);
        CHECK.due("P30 no such", x.ways(10, 1, 0), -1);
        CHECK.due("P30 no such", x.ways(1, -1, 1), -1);
        CHECK.due("P30 another what", x.ways(0, 9, 2), -1);
        CHECK.due("P30 another what", x.ways(0, 9, -1), -1);
        CHECK.due("P29 none is then", x.street(-1, 55), 0);
        CHECK.due("P30 none", x.ways(0, 9, 1), -1);
        // a first way 0 1 2 3 must give way for two to come
        int[][] cross = {{0, 1}, {1, 2}, {2, 3}, {0, 4}, {4, 2}, {1, 5}, {5, 3}};
        for (int[] c : cross) x.street(c[0], c[1]);
        CHECK.due("P30 both", x.ways(0, 3, 0), 2);
        CHECK.due("P30 short", x.ways(0, 3, 1), 3);
        x.street(-1, 0);
        for (int i = 0; i < 9; i++) x.street(i, i + 1);
        CHECK.due("P30 nine streets", x.ways(0, 9, 1), 9);
        CHECK.due("P30 one", x.ways(0, 9, 0), 1);
        x.street(-1, 0);
        for (int i = 1; i <= 8; i++) {
            x.street(0, i);
            x.street(i, 9);
        }
        CHECK.due("P30 eight", x.ways(0, 9, 0), 8);
    }

    private static void kin() {
        VeiledLandaus x = new VeiledLandaus();
        CHECK.due("P31 nobody", x.kin(0, 0), -1);
        CHECK.due("P32 no group", x.groups(0), 0);
        CHECK.due("P32 no set", x.groups(1), 0);
        for (int i = 0; i < 12; i++) x.woman(0, 0, 0);
        CHECK.due("P32 each by herself", x.groups(0), 12);
        CHECK.due("P32 the first", x.groups(1), 1);
        Check.tell(x, 3, "woman 4 sister 5; woman 3 sister 2; woman 10 sister 11;");
        CHECK.due("P32 groups", x.groups(0), 9);
        CHECK.due("P32 of several that with the least woman", x.groups(1), 12);
        Check.tell(x, 3, "woman 4 sister 5; woman 3 sister 2; woman 6 sister 5; woman 6 sister 9; woman 4 sister 9;");
        CHECK.due("P32 groups", x.groups(0), 8);
        CHECK.due("P32 greatest", x.groups(1), 16 + 32 + 64 + 512);
        CHECK.due("P31 itself", x.kin(7, 7), 0);
        CHECK.due("P31 sisters", x.kin(5, 4), 1);
        CHECK.due("P31 two steps", x.kin(4, 6), 2);
        CHECK.due("P31 two steps", x.kin(9, 5), 2);
        CHECK.due("P31 not kin", x.kin(2, 4), -1);
        CHECK.due("P31 no such", x.kin(12, 0), -1);
        CHECK.due("P31 no such", x.kin(0, -1), -1);
        CHECK.due("P31 no such, though alike", x.kin(12, 12), -1);
        CHECK.due("P32 another what", x.groups(2), -1);
        CHECK.due("P32 another what", x.groups(-1), -1);
        StringBuilder chain = new StringBuilder();
        for (int i = 11; i > 0; i--) chain.append("woman ").append(i).append(" sister ").append(i - 1).append(";");
        Check.tell(x, 3, chain.toString());
        CHECK.due("P31 eleven steps", x.kin(0, 11), 11);
        CHECK.due("P32 one group", x.groups(0), 1);
        CHECK.due("P32 of all", x.groups(1), 4095);
    }

    private static void alike() {
        VeiledLandaus x = new VeiledLandaus();
        CHECK.due("P34 nothing", x.alike(99, 0), 0);
        int[] steps = {50, 10, 14, 0, 99, 10, 18};
        for (int i = 0; i < steps.length; i++) CHECK.due("P33 step", x.step(steps[i]), i + 1);
        CHECK.due("P34 the same", x.alike(0, 0), 2);
        CHECK.due("P34 couples", x.alike(0, 1), 1);
        CHECK.due("P34 not yet", x.alike(3, 0), 2);
        CHECK.due("P34 each from each", x.alike(4, 0), 3);
        CHECK.due("P34 couples", x.alike(4, 1), 4);
        CHECK.due("P34 eight", x.alike(8, 0), 4);
        CHECK.due("P34 couples", x.alike(8, 1), 6);
        CHECK.due("P34 all", x.alike(99, 0), 7);
        CHECK.due("P34 all couples", x.alike(99, 1), 21);
        CHECK.due("P34 wrong", x.alike(100, 0), -1);
        CHECK.due("P34 wrong", x.alike(-1, 0), -1);
        CHECK.due("P34 another what", x.alike(1, 2), -1);
        CHECK.due("P34 another what", x.alike(1, -1), -1);
        CHECK.due("P33 wrong", x.step(100), -1);
        CHECK.due("P33 wrong", x.step(-2), -1);
        for (int i = 8; i <= 12; i++) CHECK.due("P33 up to twelve", x.step(60), i);
        CHECK.due("P33 thirteen", x.step(60), -1);
        CHECK.due("P33 none is then", x.step(-1), 0);
        CHECK.due("P34 nothing", x.alike(99, 0), 0);
    }

    private static void carriages() {
        VeiledLandaus x = new VeiledLandaus();
        CHECK.due("P36 at first", x.down(0), 12);
        CHECK.due("P36 at first", x.down(1), 3);
        CHECK.due("P35 told", x.carriage(0, 30, 30), true);
        CHECK.due("P36 the late one last", x.down(0), 120);
        CHECK.due("P36 the minute", x.down(1), 60);
        CHECK.due("P35 told", x.carriage(1, 30, 1), true);
        CHECK.due("P36 of several the least", x.down(0), 210);
        CHECK.due("P36 the minute", x.down(1), 61);
        x.carriage(2, 2, 5);
        CHECK.due("P36 order", x.down(0), 102);
        CHECK.due("P36 the minute", x.down(1), 63);
        int[][] wrong = {{3, 1, 0}, {-1, 1, 0}, {0, 0, 0}, {0, 31, 0}, {0, 1, -1}, {0, 1, 31}};
        for (int[] w : wrong) CHECK.due("P35 wrong", x.carriage(w[0], w[1], w[2]), false);
        CHECK.due("P35 nothing was told", x.down(1), 63);
        CHECK.due("P36 another what", x.down(2), -1);
        CHECK.due("P36 another what", x.down(-1), -1);
    }

    private static void offers() {
        VeiledLandaus x = new VeiledLandaus();
        CHECK.due("P38 none", x.stop(0), -1);
        CHECK.due("P38 none", x.stop(1), -1);
        CHECK.due("P37 wrong", x.offer(100), -1);
        CHECK.due("P37 wrong", x.offer(-2), -1);
        CHECK.due("P37 one", x.offer(0), 1);
        CHECK.due("P38 one", x.stop(0), 0);
        CHECK.due("P38 one order", x.stop(1), 1);
        CHECK.due("P37 two", x.offer(99), 2);
        CHECK.due("P38 two: either k", x.stop(0), 0);
        CHECK.due("P38 one of two orders", x.stop(1), 1);
        x.offer(5);
        CHECK.due("P38 three", x.stop(0), 1);
        CHECK.due("P38 three of six", x.stop(1), 3);
        x.offer(7);
        CHECK.due("P38 four", x.stop(0), 1);
        CHECK.due("P38 eleven of 24", x.stop(1), 11);
        x.offer(50);
        CHECK.due("P38 five", x.stop(0), 2);
        CHECK.due("P38 52 of 120", x.stop(1), 52);
        x.offer(51);
        x.offer(52);
        CHECK.due("P38 seven", x.stop(0), 2);
        CHECK.due("P38 2088 of 5040", x.stop(1), 2088);
        CHECK.due("P37 eight", x.offer(1), -1);
        CHECK.due("P38 another what", x.stop(2), -1);
        CHECK.due("P38 another what", x.stop(-1), -1);
        CHECK.due("P37 none is then", x.offer(-1), 0);
        CHECK.due("P38 none", x.stop(0), -1);
        x.offer(4);
        x.offer(4);
        CHECK.due("P38 as great as the greatest", x.stop(0), 0);
        CHECK.due("P38 both orders of places", x.stop(1), 2);
        for (int i = 0; i < 5; i++) x.offer(4);
        CHECK.due("P38 seven alike", x.stop(0), 0);
        CHECK.due("P38 all orders of places", x.stop(1), 5040);
        x.offer(-1);
        x.offer(4);
        x.offer(4);
        x.offer(1);
        // k 0: 4 of 6; k 1: 4 4 1 ends with 1, 4 1 4 and 1 4 4 with 4: 4 of 6
        CHECK.due("P38 two alike", x.stop(0), 0);
        CHECK.due("P38 two alike", x.stop(1), 4);
    }

    /** Children of grooms, given by years that are as glad as can be. */
    private static VeiledLandaus with(int... children) {
        VeiledLandaus x = new VeiledLandaus();
        for (int i = 0; i < 4; i++) x.woman(0, 0, 0);
        Check.tell(x, 0, "joy 0;");
        for (int i = 0; i < children.length; i++) x.groom(0, 0);
        for (int i = 0; i < children.length; i++) {
            if (children[i] > 0) x.wed(i, 1, 2, 3);
            x.set(5, i, 99);
            for (int n = 0; n < 60 && x.who(i, 4) < children[i]; n++) x.years(1);
            x.part(i);
        }
        return x;
    }

    private static void game(int groom, int many, int... children) {
        VeiledLandaus x = with(children);
        for (int i = 0; i < children.length; i++) CHECK.due("children", x.who(i, 4), children[i]);
        CHECK.due("P39 groom", x.game(0), groom);
        CHECK.due("P39 how many", x.game(1), many);
        CHECK.due("P39 another what", x.game(2), -1);
        CHECK.due("P39 another what", x.game(-1), -1);
    }

    private static void games() {
        game(-1, -1);
        game(-1, -1, 0, 0);
        game(-1, -1, 1);
        game(0, 1, 2);
        game(0, 2, 3);
        game(0, 3, 4);
        game(-1, -1, 5);
        game(0, 1, 6);
        game(0, 1, 1, 1);
        game(-1, -1, 2, 2);
        game(1, 2, 1, 2);
        game(1, 2, 1, 3, 1, 0);
        game(-1, -1, 1, 2, 3);
        game(0, 2, 2, 5);
        game(0, 3, 4, 4);
        game(-1, -1, 20, 5, 0);
        game(0, 3, 20, 4, 4);
        game(2, 1, 0, 2, 3);
    }

    private static void forgetNothing() {
        VeiledLandaus x = new VeiledLandaus();
        x.years(3);
        x.man(0, 1, true);
        x.guess(0, 0, 0);
        x.bet(0, 200);
        x.street(0, 1);
        x.step(5);
        x.carriage(0, 5, 5);
        x.offer(5);
        x.man(-1, 0, true);
        CHECK.due("P40 what is told for thought forgets nothing", x.look(12), 3);
        x.undo();
        CHECK.due("P40 and is not undone", x.plumes(0), 125);
        CHECK.due("P40 and is not undone", x.ways(0, 1, 1), 1);
        CHECK.due("P40 and is not undone", x.alike(0, 0), 1);
        CHECK.due("P40 and is not undone", x.down(1), 10);
        CHECK.due("P40 and is not undone", x.stop(1), 1);
    }
}
