/** Promises 1 to 9, 14, 15, 18 and 42, and the Terms they speak of: each sentence that names an edge, by itself. */
public final class TownEdgeTest {
    private static final Check CHECK = new Check("TownEdgeTest");
    private static final int NOTHING = -10000;

    public static void main(String[] args) {
        heads();
        women();
        grooms();
        sets();
        weddings();
        partsAndCoughs();
        years();
        children();
        book();
        looks();
        CHECK.close();
    }

    /** That calls between leave all that can be seen as it was. */
    private static void stays(String call, VeiledLandaus x, String before) {
        CHECK.same(call + " changes nothing", Sight.of(x), before);
    }

    private static void heads() {
        CHECK.says("NONE = -1");
        CHECK.due("NONE", VeiledLandaus.NONE, -1);

        CHECK.says("An object is used for at most 512 calls");
        VeiledLandaus x = new VeiledLandaus();
        for (int i = 1; i <= 510; i++) x.years(1);
        CHECK.due("the 511th: years(1)", x.years(1), 0);
        CHECK.due("the 512th: look(2)", x.look(2), 511);
        x = new VeiledLandaus();
        for (int i = 1; i <= 510; i++) x.image(true);
        CHECK.due("the 511th: image(false)", x.image(false), true);
        CHECK.due("the 512th: woman", x.woman(0, 0, 0), 0);

        CHECK.says("P1: An empty church");
        x = new VeiledLandaus();
        for (int i = 0; i <= 12; i++) CHECK.due("look(" + i + ")", x.look(i), 0);
        CHECK.due("of", x.of(0, 0), -2);
        CHECK.due("who", x.who(0, 0), -100);
        CHECK.due("book", x.book(0, 0), NOTHING);
        CHECK.due("goes(1, 0)", x.goes(1, 0), 0);
        CHECK.due("goes(60, 3)", x.goes(60, 3), 0);
        CHECK.due("game", x.game(0), -1);
        CHECK.due("groups", x.groups(0), 0);
        CHECK.due("the TAPE", x.end(1), false);
        VeiledLandaus y = new VeiledLandaus();
        x.woman(1, 1, 1);
        x.state(5);
        x.image(true);
        CHECK.due("of another object: WOMEN", y.look(0), 0);
        CHECK.due("of another object: STATE", y.look(7), 0);
        CHECK.due("of another object: THE IMAGE", y.image(false), false);

        CHECK.says("P2: STATE is told: what it was (an int, 0 at first)");
        x = new VeiledLandaus();
        int[] states = {Integer.MIN_VALUE, Integer.MAX_VALUE, -1, 0, 1, 255, 256, 1 << 24};
        int was = 0;
        for (int v : states) {
            CHECK.due("state(" + v + ")", x.state(v), was);
            CHECK.due("look(7)", x.look(7), v);
            was = v;
        }
    }

    private static void women() {
        CHECK.says("STEP 0 .. 9, HEART 0 .. 9, ROTE 0 .. 9");
        VeiledLandaus x = Town.of(3, 1);
        x.years(2);
        x.image(true);
        String before = Sight.of(x);
        for (int v : new int[] {-1, 10}) refusedWoman(x, v);
        for (int v : Town.FAR) refusedWoman(x, v);
        stays("a refused woman", x, before);
        CHECK.due("look(12)", x.look(12), 2);
        for (int v : new int[] {0, 9}) {
            int number = x.look(0);
            CHECK.due("woman of " + v, x.woman(v, v, v), number);
            for (int what = 0; what < 3; what++) CHECK.due("of " + what, x.of(number, what), v);
        }

        CHECK.says("P3: NONE if there are twelve");
        x = Town.of(0, 0);
        for (int i = 0; i < 12; i++) CHECK.due("woman " + i, x.woman(9, 9, 9), i);
        x.years(1);
        before = Sight.of(x);
        CHECK.due("the 13th", x.woman(0, 0, 0), -1);
        stays("the 13th", x, before);
        CHECK.due("the 12th is", x.of(11, 0), 9);
        CHECK.due("the 13th is not", x.of(12, 0), -2);
        CHECK.due("look(5)", x.look(5), 4095);

        CHECK.says("WED to a GROOM or none (none at first); COUGHS, SISTERS empty at first");
        CHECK.due("WED", x.of(11, 3), -1);
        CHECK.due("SISTERS", x.of(11, 4), 0);
        CHECK.due("COUGHS", x.of(11, 5), 0);

        CHECK.says("P14: NONE - 1 if there is none such, or another what");
        for (int what : new int[] {-1, 6, 7, 10}) CHECK.due("of(0, " + what + ")", x.of(0, what), -2);
        for (int v : Town.FAR) {
            CHECK.due("of(0, " + v + ")", x.of(0, v), -2);
            CHECK.due("of(" + v + ", 0)", x.of(v, 0), -2);
            CHECK.due("of(" + v + ", 5)", x.of(v, 5), -2);
        }
        CHECK.due("of(-1, 3)", x.of(-1, 3), -2);
        CHECK.due("of(12, 4)", x.of(12, 4), -2);
        x = Town.of(2, 0);
        for (int what = 0; what <= 5; what++) CHECK.due("of(2, " + what + ")", x.of(2, what), -2);
        CHECK.due("none at all", new VeiledLandaus().of(0, 4), -2);
    }

    private static void refusedWoman(VeiledLandaus x, int v) {
        CHECK.due("STEP " + v, x.woman(v, 0, 0), -1);
        CHECK.due("HEART " + v, x.woman(0, v, 0), -1);
        CHECK.due("ROTE " + v, x.woman(0, 0, v), -1);
    }

    private static void grooms() {
        CHECK.says("P4: NONE if one can't be (NERVE 0 .. 9, PLEDGED to a WOMAN)");
        CHECK.due("no WOMAN at all", new VeiledLandaus().groom(0, 0), -1);
        VeiledLandaus x = Town.of(3, 1);
        x.years(2);
        String before = Sight.of(x);
        for (int v : new int[] {-1, 10}) CHECK.due("NERVE " + v, x.groom(v, 0), -1);
        for (int v : new int[] {-1, 3}) CHECK.due("PLEDGED " + v, x.groom(0, v), -1);
        for (int v : Town.FAR) {
            CHECK.due("NERVE " + v, x.groom(v, 0), -1);
            CHECK.due("PLEDGED " + v, x.groom(0, v), -1);
        }
        stays("a refused groom", x, before);
        CHECK.due("the last WOMAN, NERVE 9", x.groom(9, 2), 1);
        CHECK.due("the first one, NERVE 0", x.groom(0, 0), 2);
        CHECK.due("PLEDGED", x.who(1, 1), 2);
        CHECK.due("NERVE", x.who(1, 0), 9);

        CHECK.says("P4: NONE if there are eight");
        x = Town.of(12, 7);
        CHECK.due("the 8th, PLEDGED to the 12th", x.groom(3, 11), 7);
        before = Sight.of(x);
        CHECK.due("the 9th", x.groom(0, 0), -1);
        stays("the 9th", x, before);
        CHECK.due("look(1)", x.look(1), 8);

        CHECK.says("WIFE none at first, GLAD, CHILDREN, WEDS 0 at first");
        CHECK.due("WIFE", x.who(7, 2), -1);
        for (int what = 3; what <= 5; what++) CHECK.due("what " + what, x.who(7, what), 0);

        CHECK.says("P15: NONE - 99 if there is none such, or another what");
        for (int what : new int[] {-1, 6, 7, 8, 9, 22, 23, 42}) CHECK.due("who(0, " + what + ")", x.who(0, what), -100);
        for (int v : Town.FAR) {
            CHECK.due("who(" + v + ", 0)", x.who(v, 0), -100);
            CHECK.due("who(" + v + ", 10)", x.who(v, 10), -100);
            CHECK.due("who(0, 10 + " + v + ")", x.who(0, v == -2 ? 8 : v + 10), -100);
        }
        CHECK.due("who(8, 2)", x.who(8, 2), -100);
        CHECK.due("who(-1, 2)", x.who(-1, 2), -100);
        CHECK.due("who(0, 21): the last WOMAN", x.who(0, 21), -4);
        x = Town.of(1, 1);
        CHECK.due("who(0, 10): the only one", x.who(0, 10), -3);
        CHECK.due("who(0, 11): none", x.who(0, 11), -100);
        CHECK.due("who(1, 0): none", x.who(1, 0), -100);
    }

    private static void sets() {
        CHECK.says("P5: false if one can't be, or another what");
        VeiledLandaus x = Town.of(3, 2);
        x.years(2);
        String before = Sight.of(x);
        for (int what = 0; what <= 4; what++) {
            CHECK.due("set(" + what + ", 0, -1)", x.set(what, 0, -1), false);
            CHECK.due("set(" + what + ", 0, 10)", x.set(what, 0, 10), false);
            CHECK.due("set(" + what + ", -1, 0)", x.set(what, -1, 0), false);
            CHECK.due("set(" + what + ", 3, 0)", x.set(what, 3, 0), false);
            for (int v : Town.FAR) {
                CHECK.due("set(" + what + ", 0, " + v + ")", x.set(what, 0, v), false);
                CHECK.due("set(" + what + ", " + v + ", 0)", x.set(what, v, 0), false);
            }
        }
        stays("a refused set", x, before);
        x = Town.of(3, 2);
        x.years(2);
        before = Sight.of(x);
        for (int what = 3; what <= 5; what++) CHECK.due("set(" + what + ", 2, 0)", x.set(what, 2, 0), false);
        CHECK.due("set(4, 0, 3): no such WOMAN", x.set(4, 0, 3), false);
        for (int v : new int[] {-100, 100, 127, -128, Integer.MIN_VALUE, Integer.MAX_VALUE}) {
            CHECK.due("set(5, 0, " + v + ")", x.set(5, 0, v), false);
        }
        for (int what : new int[] {-1, 6, 7, 10}) CHECK.due("set(" + what + ", 0, 0)", x.set(what, 0, 0), false);
        for (int v : Town.FAR) CHECK.due("set(" + v + ", 0, 0)", x.set(v, 0, 0), false);
        stays("a refused set", x, before);

        CHECK.says("P5: What 0 STEP, 1 HEART, 2 ROTE, 3 NERVE, 4 PLEDGED, 5 GLAD: true, at the edges");
        for (int v : new int[] {9, 0}) {
            for (int what = 0; what <= 2; what++) {
                CHECK.due("set(" + what + ", 2, " + v + ")", x.set(what, 2, v), true);
                CHECK.due("of", x.of(2, what), v);
            }
            CHECK.due("set(3, 1, " + v + ")", x.set(3, 1, v), true);
            CHECK.due("NERVE", x.who(1, 0), v);
        }
        CHECK.due("PLEDGED to the last", x.set(4, 1, 2), true);
        CHECK.due("PLEDGED", x.who(1, 1), 2);
        CHECK.due("PLEDGED of the other", x.who(0, 1), 0);
        for (int v : new int[] {-99, 99}) {
            CHECK.due("GLAD " + v, x.set(5, 1, v), true);
            CHECK.due("GLAD", x.who(1, 3), v);
        }
        CHECK.due("as it is", x.set(5, 1, 99), true);
    }

    private static void weddings() {
        whoCannotWed();
        draws();
        CHECK.says("He takes the landau with most points (of several the least)");
        takes("counts 1;", 0, 1);
        takes("counts 1-place;", 0, 1);
        takes("counts place;", 2, 2);
        takes("counts 1 when place>0; counts 0;", 1, 1);
        takes("counts 0 when place=1; counts 1;", 0, 1);
        takes("counts 7 when place=1; counts place;", 1, 7);
        takes("counts 0-99;", 0, -99);
        takes("counts 0-98 when place=2; counts 0-99;", 2, -98);

        CHECK.says("Then landau by landau who is in COUGHS: 10 points more, in COUGHS no more");
        VeiledLandaus x = Town.sure(7, 1, "counts 10 when place=0; counts 0;", 1);
        for (int w : new int[] {1, 2, 6}) x.cough(w, true);
        CHECK.due("10 and 0 more in the first: of several the least", x.wed(0, 3, 1, 2), 3);
        CHECK.due("only who was there", x.look(4), 64);
        x = Town.sure(4, 1, "counts 9 when place=0; counts 0;", 1);
        x.cough(2, true);
        CHECK.due("10 are more than 9", x.wed(0, 1, 3, 2), 2);
        x = Town.sure(4, 1, "counts 1;", 0);
        x.cough(2, true);
        CHECK.due("without QUESTIONS", x.wed(0, 1, 2, 3), 2);
        CHECK.due("her landau", x.book(0, 3), 1);
        CHECK.due("her points", x.book(1, 3), 10);

        CHECK.says("Is it she whom he is PLEDGED to, TOWN is 3 less, else TOWN is 1 more");
        x = Town.of(6, 3);
        x.wed(0, 0, 1, 2);
        CHECK.due("she", x.look(3), -3);
        x.wed(1, 1, 2, 3);
        CHECK.due("not she", x.look(3), -2);
        x.set(4, 2, 2);
        x.wed(2, 2, 3, 4);
        CHECK.due("she is not the first WOMAN", x.look(3), -5);

        CHECK.says("she is his WIFE, WED to him, WEDS one more (WOMEN not taken stay as they are)");
        CHECK.due("WIFE", x.who(1, 2), 1);
        CHECK.due("WED", x.of(1, 3), 1);
        CHECK.due("WED to GROOM 0", x.of(0, 3), 0);
        CHECK.due("WEDS", x.who(1, 5), 1);
        for (int w = 3; w <= 5; w++) CHECK.due("not taken", x.of(w, 3), -1);
        CHECK.due("not WED", x.look(5), 56);

        CHECK.says("question by question (QUESTIONS): none, no DRAW");
        x = Town.of(3, 1);
        x.state(7);
        CHECK.due("the first", x.wed(0, 2, 1, 0), 2);
        CHECK.due("STATE", x.look(7), 7);
        CHECK.due("THE BOOK", x.look(6), 1);
        CHECK.due("points", x.book(0, 3), 0);
    }

    private static void takes(String law, int landau, int points) {
        VeiledLandaus x = Town.sure(4, 1, law, 1);
        int[] three = {3, 1, 2};
        CHECK.due("wed by " + law, x.wed(0, three[0], three[1], three[2]), three[landau]);
        CHECK.due("her points by " + law, x.book(3, 3), points);
    }

    private static void whoCannotWed() {
        CHECK.says("P6: NONE if it can't be (three WOMEN, unlike)");
        VeiledLandaus x = Town.of(4, 2);
        Check.tell(x, 1, "ask 1;");
        x.cough(3, true);
        String before = Sight.of(x);
        int[][] alike = {{1, 1, 2}, {1, 2, 1}, {2, 1, 1}, {1, 1, 1}};
        for (int[] a : alike) CHECK.due("alike", x.wed(0, a[0], a[1], a[2]), -1);
        for (int v : new int[] {-1, 4}) refusedWedding(x, v);
        for (int v : Town.FAR) refusedWedding(x, v);
        for (int v : new int[] {-1, 2}) CHECK.due("no GROOM " + v, x.wed(v, 0, 1, 2), -1);
        stays("a refused wedding", x, before);

        CHECK.says("P6: A WEDDING of a GROOM without WIFE and three WOMEN none WED");
        x = Town.of(7, 3);
        Check.tell(x, 1, "ask 1;");
        x.state(5);
        int bride = x.wed(0, 0, 1, 2);
        int state = x.look(7);
        CHECK.due("with a WIFE", x.wed(0, 3, 4, 5), -1);
        CHECK.due("WED in the first", x.wed(1, bride, 4, 5), -1);
        CHECK.due("WED in the second", x.wed(1, 4, bride, 5), -1);
        CHECK.due("WED in the third", x.wed(1, 4, 5, bride), -1);
        CHECK.due("STATE", x.look(7), state);
        CHECK.due("THE BOOK", x.look(6), 4);
        CHECK.due("what can be undone", x.look(12), 1);
        CHECK.due("TOWN", x.look(3), bride == 0 ? -3 : 1);
        CHECK.due("WEDS", x.who(0, 5), 1);
        x.part(0);
        CHECK.due("parted, he and she can again", x.wed(0, bride, 4, 5) >= 0, true);
        CHECK.due("WEDS", x.who(0, 5), 2);
    }

    private static void refusedWedding(VeiledLandaus x, int v) {
        CHECK.due("WOMAN " + v, x.wed(0, v, 1, 2), -1);
        CHECK.due("WOMAN " + v, x.wed(0, 0, v, 2), -1);
        CHECK.due("WOMAN " + v, x.wed(0, 0, 1, v), -1);
        CHECK.due("GROOM " + v, x.wed(v, 0, 1, 2), -1);
    }

    private static void draws() {
        CHECK.says("a DRAW of 1000: below it she says yes");
        // yes is 500 for a HEART and a ROTE of 0
        CHECK.due("499 of 500", answerTo("", Draws.of(499)), 0);
        CHECK.due("500 of 500", answerTo("", Draws.of(500)), 1);
        CHECK.due("0 of 500", answerTo("", Draws.of(0)), 0);
        CHECK.due("999 of 500", answerTo("", Draws.of(999)), 1);
        CHECK.due("0 of 0", answerTo("yes 0;", Draws.of(0)), 1);
        CHECK.due("0 of 1", answerTo("yes 1;", Draws.of(0)), 0);
        CHECK.due("1 of 1", answerTo("yes 1;", Draws.of(1)), 1);
        CHECK.due("998 of 999", answerTo("yes 999;", Draws.of(998)), 0);
        CHECK.due("999 of 999", answerTo("yes 999;", Draws.of(999)), 1);
        CHECK.due("999 of 1000", answerTo("yes 1000;", Draws.of(999)), 0);

        CHECK.says("its highest 24 bits (without sign) modulo m");
        CHECK.due("below 0: 500 of 500", answerTo("", Draws.ofBelow(500)), 1);
        CHECK.due("below 0: 499 of 500", answerTo("", Draws.ofBelow(499)), 0);
        CHECK.due("below 0: 999 of 999", answerTo("yes 999;", Draws.ofBelow(999)), 1);
        CHECK.due("below 0: 0 of 1", answerTo("yes 1;", Draws.ofBelow(0)), 0);

        CHECK.says("it becomes 1664525 times itself + 1013904223 (ints, which wrap)");
        for (int v : new int[] {0, 1, -1, Integer.MAX_VALUE, Integer.MIN_VALUE, 2000, -123456789}) {
            VeiledLandaus x = Town.sure(4, 1, "yes 0;", 1);
            x.state(v);
            x.wed(0, 1, 2, 3);
            CHECK.due("after three from " + v, x.look(7), (int) afterThree(v));
        }
        CHECK.says("question by question, landau by landau: yes is asked, a DRAW");
        for (String law : new String[] {"yes 0;", "yes 1000;"}) {
            VeiledLandaus x = Town.sure(4, 1, law, 16);
            x.wed(0, 1, 2, 3);
            CHECK.due("48 of them", x.look(7), Draws.after(0, 48));
        }
        VeiledLandaus x = Town.sure(4, 1, "", 2);
        x.state(Draws.before(Draws.before(Draws.before(Draws.before(Draws.of(500))))));
        x.wed(0, 1, 2, 3);
        CHECK.due("the fifth is of the second question in the second landau", x.book(4, 1), 1);
        CHECK.due("who", x.book(4, 2), 2);
        x = Town.sure(4, 1, "", 2);
        x.state(Draws.before(Draws.before(Draws.before(Draws.before(Draws.of(499))))));
        x.wed(0, 1, 2, 3);
        CHECK.due("the fifth", x.book(4, 1), 0);
    }

    /** By longs, so that the wrap is made by hand. */
    private static long afterThree(long state) {
        for (int i = 0; i < 3; i++) state = (1664525 * state + 1013904223) % (1L << 32);
        return state;
    }

    /** What THE BOOK tells of the first one's answer: 0 yes, 1 no. */
    private static int answerTo(String law, int state) {
        VeiledLandaus x = Town.sure(4, 1, law, 1);
        x.state(state);
        x.wed(0, 1, 2, 3);
        return x.book(0, 1);
    }

    private static void partsAndCoughs() {
        CHECK.says("P7: false if it can't be");
        VeiledLandaus x = Town.of(4, 2);
        x.wed(0, 1, 2, 3);
        String before = Sight.of(x);
        CHECK.due("part(1): without a WIFE", x.part(1), false);
        CHECK.due("part(2): none such", x.part(2), false);
        CHECK.due("part(-1)", x.part(-1), false);
        for (int v : Town.FAR) CHECK.due("part(" + v + ")", x.part(v), false);
        stays("a refused parting", x, before);
        CHECK.due("none at all", new VeiledLandaus().part(0), false);

        CHECK.says("To PART: she is WED to nobody, he has none, GLAD is 0 (CHILDREN stay his)");
        x.set(5, 0, 99);
        x.state(Draws.of(0));
        x.years(1);
        CHECK.due("a child", x.who(0, 4), 1);
        CHECK.due("part", x.part(0), true);
        CHECK.due("CHILDREN", x.who(0, 4), 1);
        CHECK.due("WIFE", x.who(0, 2), -1);
        CHECK.due("GLAD", x.who(0, 3), 0);
        CHECK.due("WED", x.of(1, 3), -1);
        CHECK.due("not WED", x.look(5), 15);
        CHECK.due("again", x.part(0), false);
        CHECK.due("TOWN stays", x.look(3), 1);
        CHECK.due("GLAD of before", x.book(x.look(6) - 1, 3), 95);

        CHECK.says("P8: false if it is so, or there is none such");
        x = Town.of(3, 1);
        x.cough(1, true);
        before = Sight.of(x);
        CHECK.due("it is so", x.cough(1, true), false);
        CHECK.due("it is not so", x.cough(0, false), false);
        for (int v : new int[] {-1, 3}) refusedCough(x, v);
        for (int v : Town.FAR) refusedCough(x, v);
        stays("a refused cough", x, before);
        CHECK.due("none at all", new VeiledLandaus().cough(0, true), false);
        CHECK.due("one who is WED may", x.wed(0, 2, 0, 1) == 1 && x.cough(1, true), true);
        x = Town.of(12, 0);
        CHECK.due("the last one", x.cough(11, true), true);
        CHECK.due("the set", x.look(4), 2048);
        CHECK.due("no more", x.cough(11, false), true);
        CHECK.due("the set", x.look(4), 0);
    }

    private static void refusedCough(VeiledLandaus x, int v) {
        CHECK.due("cough(" + v + ", true)", x.cough(v, true), false);
        CHECK.due("cough(" + v + ", false)", x.cough(v, false), false);
    }

    private static void years() {
        CHECK.says("P9: NONE, and nothing is done, if one can't be (1 .. 60)");
        VeiledLandaus x = Town.of(3, 1);
        x.wed(0, 0, 1, 2);
        String before = Sight.of(x);
        for (int n : new int[] {0, -1, 61}) CHECK.due("years(" + n + ")", x.years(n), -1);
        for (int n : Town.FAR) {
            if (n < 1 || n > 60) CHECK.due("years(" + n + ")", x.years(n), -1);
        }
        stays("years refused", x, before);
        x.years(1);
        CHECK.due("1", x.look(2), 1);
        x.years(60);
        CHECK.due("60", x.look(2), 61);

        CHECK.says("P9: NONE, and nothing is done, if YEAR would be above 9999");
        x = Town.of(3, 1);
        for (int i = 0; i < 166; i++) x.years(60);
        before = Sight.of(x);
        for (int n = 40; n <= 60; n += 4) CHECK.due("years(" + n + ") from 9960", x.years(n), -1);
        stays("years refused", x, before);
        CHECK.due("years(39)", x.years(39), 0);
        CHECK.due("years(1) from 9999", x.years(1), -1);
        CHECK.due("YEAR", x.look(2), 9999);
        CHECK.due("can be undone", x.look(12), 6);
        CHECK.due("undo", x.undo(), true);
        CHECK.due("years(2) from 9998", x.years(2), -1);
        CHECK.due("years(1) from 9998", x.years(1), 0);

        CHECK.says("(a) Line by line of YEARS for it (YEAR 0 .. 999)");
        x = Town.of(3, 1);
        Check.tell(x, 2, "in 0 cough 0; in 999 cough 1; in 998 cough 2;");
        x.years(1);
        CHECK.due("in 0", x.look(4), 1);
        for (int i = 0; i < 16; i++) x.years(60);
        x.years(37);
        CHECK.due("YEAR 998 not gone by", x.look(4), 1);
        x.years(1);
        CHECK.due("in 998", x.look(4), 5);
        x.years(1);
        CHECK.due("in 999", x.look(4), 7);
        doneInYears();
    }

    private static void doneInYears() {
        CHECK.says("(a) Line by line of YEARS for it: wed, cough, part what can be done");
        VeiledLandaus x = Town.sure(7, 3, "joy 0;", 1);
        Check.tell(x, 2, "in 0 wed 0 1 2 3; in 0 part 0; in 0 wed 1 1 4 5; in 0 wed 1 4 1 5; in 0 wed 1 4 5 1;"
            + "in 0 part 1; in 0 wed 0 4 5 6; in 0 cough 0;");
        x.wed(0, 1, 2, 3);
        x.cough(0, true);
        // he has a WIFE, parts, then GROOM 1 can wed; his WIFE keeps the next two from it; he parts
        x.state(9);
        x.years(1);
        CHECK.due("THE BOOK: 4 of before, 5, 4 + 5 and one more 4", x.look(6), 4 + 1 + 4 + 1 + 4);
        CHECK.due("the first line was not done", x.book(4, 1), 5);
        CHECK.due("the third is", x.book(5, 1) <= 1, true);
        CHECK.due("COUGHS stay", x.look(4), 1);
        CHECK.due("the last wedding was done", x.who(0, 2) >= 4, true);
        CHECK.due("GROOM 1 has parted", x.who(1, 2), -1);
        CHECK.due("STATE: six answers, a year", x.look(7), Draws.after(9, 7));

        CHECK.says("A YEAR: a wedding of it has its joy in it; YEAR is one more at its end");
        x = Town.sure(3, 1, "joy 5 when year=0; joy 1;", 0);
        Check.tell(x, 2, "in 0 wed 0 1 2 0; in 1 part 0;");
        x.years(1);
        CHECK.due("GLAD", x.who(0, 3), 5);
        CHECK.due("THE BOOK: YEAR", x.book(0, 0), 0);
        x.years(1);
        CHECK.due("parted before the joy", x.who(0, 3), 0);
        CHECK.due("THE BOOK: YEAR", x.book(x.look(6) - 1, 0), 1);

        CHECK.says("(b) GROOM by GROOM with a WIFE");
        x = Town.sure(6, 2, "joy 7;", 0);
        x.state(3);
        CHECK.due("nobody has one", x.years(3), 0);
        CHECK.due("no joy", x.who(0, 3), 0);
        CHECK.due("no DRAW", x.look(7), 3);
        x.wed(1, 1, 2, 3);
        x.years(1);
        CHECK.due("not his", x.who(0, 3), 0);
        CHECK.due("his", x.who(1, 3), 7);
        CHECK.due("one DRAW", x.look(7), Draws.next(3));
    }

    private static int gladAfter(int glad, String joy) {
        VeiledLandaus x = Town.sure(3, 1, "joy " + joy + ";", 0);
        x.wed(0, 1, 2, 0);
        x.set(5, 0, glad);
        x.years(1);
        return x.who(0, 3);
    }

    /** Whether a child comes for a GLAD and a DRAW, without joy. */
    private static int childFor(int glad, int draw, String joy) {
        VeiledLandaus x = Town.sure(3, 1, "joy " + joy + ";", 0);
        x.wed(0, 1, 2, 0);
        x.set(5, 0, glad);
        x.state(draw % 2 == 0 ? Draws.of(draw) : Draws.ofBelow(draw));
        int came = x.years(1);
        CHECK.due("CHILDREN for " + glad, x.who(0, 4), came);
        CHECK.due("THE BOOK for " + glad, x.look(6), 1 + came);
        return came;
    }

    private static void children() {
        CHECK.says("GLAD is joy more (-99 .. 99 held)");
        CHECK.due("98 and 1", gladAfter(98, "1"), 99);
        CHECK.due("99 and 1", gladAfter(99, "1"), 99);
        CHECK.due("80 and 20", gladAfter(80, "20"), 99);
        CHECK.due("79 and 20", gladAfter(79, "20"), 99);
        CHECK.due("78 and 20", gladAfter(78, "20"), 98);
        CHECK.due("-98 and -1", gladAfter(-98, "0-1"), -99);
        CHECK.due("-99 and -1", gladAfter(-99, "0-1"), -99);
        CHECK.due("-80 and -20", gladAfter(-80, "0-20"), -99);
        CHECK.due("-78 and -20", gladAfter(-78, "0-20"), -98);

        CHECK.says("a DRAW of 1000: below 100 and 5 times GLAD (0 .. 1000 held) a child more");
        CHECK.due("GLAD 0, 99", childFor(0, 99, "0"), 1);
        CHECK.due("GLAD 0, 100", childFor(0, 100, "0"), 0);
        CHECK.due("GLAD 99, 594", childFor(99, 594, "0"), 1);
        CHECK.due("GLAD 99, 595", childFor(99, 595, "0"), 0);
        CHECK.due("GLAD 99, 999", childFor(99, 999, "0"), 0);
        CHECK.due("GLAD -19, 4", childFor(-19, 4, "0"), 1);
        CHECK.due("GLAD -19, 5", childFor(-19, 5, "0"), 0);
        CHECK.due("GLAD -20, 0", childFor(-20, 0, "0"), 0);
        CHECK.due("GLAD -99, 0", childFor(-99, 0, "0"), 0);
        CHECK.due("GLAD -99, 999", childFor(-99, 999, "0"), 0);
        CHECK.due("GLAD 0 and joy 20, 199", childFor(0, 199, "20"), 1);
        CHECK.due("GLAD 0 and joy 20, 200", childFor(0, 200, "20"), 0);

        CHECK.says("then, if CHILDREN are below 20, a DRAW (CHILDREN 0 .. 20)");
        VeiledLandaus x = Town.sure(3, 1, "joy 0;", 0);
        x.wed(0, 1, 2, 0);
        x.set(5, 0, 99);
        for (int i = 1; i <= 20; i++) {
            x.state(Draws.of(0));
            CHECK.due("child " + i, x.years(1), 1);
        }
        CHECK.due("CHILDREN", x.who(0, 4), 20);
        CHECK.due("THE BOOK: CHILDREN then", x.book(20, 3), 20);
        x.state(Draws.of(0));
        CHECK.due("no 21st", x.years(1), 0);
        CHECK.due("CHILDREN", x.who(0, 4), 20);
        CHECK.due("no DRAW", x.look(7), Draws.of(0));
        CHECK.due("THE BOOK", x.look(6), 21);

        CHECK.says("P9: how many children came");
        x = Town.sure(6, 2, "joy 0;", 0);
        x.wed(0, 1, 2, 3);
        x.wed(1, 2, 3, 4);
        x.set(5, 0, 99);
        x.set(5, 1, 99);
        x.state(1);
        int state = 1;
        int came = 0;
        for (int i = 0; i < 10; i++) {
            state = Draws.next(state);
            if ((state >>> 8) % 1000 < 595) came++;
        }
        CHECK.due("years(5)", x.years(5), came);
        CHECK.due("of both", x.who(0, 4) + x.who(1, 4), came);
    }

    private static void book() {
        CHECK.says("P18: NONE - 9999 if there is none such, or another what");
        VeiledLandaus x = Town.of(4, 1);
        CHECK.due("empty", x.book(0, 0), NOTHING);
        x.wed(0, 1, 2, 3);
        x.part(0);
        for (int what : new int[] {-1, 4, 5}) CHECK.due("book(0, " + what + ")", x.book(0, what), NOTHING);
        for (int i : new int[] {-1, 2, 149, 150}) CHECK.due("book(" + i + ", 0)", x.book(i, 0), NOTHING);
        for (int v : Town.FAR) {
            CHECK.due("book(" + v + ", 0)", x.book(v, 0), NOTHING);
            CHECK.due("book(0, " + v + ")", x.book(0, v), NOTHING);
        }
        CHECK.due("book(1, 1): the last line", x.book(1, 1), 5);
        x.undo();
        CHECK.due("book(1, 1): undone", x.book(1, 1), NOTHING);

        CHECK.says("THE BOOK (150 lines; no more then)");
        x = Town.sure(4, 1, "", 16);
        for (int i = 0; i < 3; i++) {
            x.wed(0, 1, 2, 3);
            if (i < 2) x.part(0);
        }
        CHECK.due("three weddings, two partings", x.look(6), 149);
        CHECK.due("book(149, 0)", x.book(149, 0), NOTHING);
        x.part(0);
        CHECK.due("150", x.look(6), 150);
        CHECK.due("book(149, 1)", x.book(149, 1), 5);
        CHECK.due("book(150, 1)", x.book(150, 1), NOTHING);
        String last = x.book(149, 0) + " " + x.book(149, 2) + " " + x.book(149, 3);
        int state = x.look(7);
        CHECK.due("a wedding goes on", x.wed(0, 1, 2, 3) > 0, true);
        CHECK.due("its DRAWS", x.look(7), Draws.after(state, 48));
        CHECK.due("its WEDS", x.who(0, 5), 4);
        CHECK.due("no line more", x.look(6), 150);
        CHECK.same("the last line", x.book(149, 0) + " " + x.book(149, 2) + " " + x.book(149, 3), last);
        CHECK.due("the last line", x.book(149, 1), 5);
        x.undo();
        CHECK.due("undone: none less", x.look(6), 150);
        x.undo();
        CHECK.due("undone: one less", x.look(6), 149);
        x.state(Draws.of(0));
        x.set(5, 0, 99);
        x.years(1);
        CHECK.due("the 150th is another then", x.book(149, 1), 4);
        x.state(Draws.of(0));
        CHECK.due("a child without a line", x.years(1), 1);
        CHECK.due("THE BOOK", x.look(6), 150);

        CHECK.says("THE BOOK (150 lines): full amid a wedding");
        x = Town.sure(4, 1, "", 15);
        for (int i = 0; i < 3; i++) {
            x.wed(0, 1, 2, 3);
            x.part(0);
        }
        CHECK.due("lines", x.look(6), 3 * 47);
        x.wed(0, 1, 2, 3);
        CHECK.due("full", x.look(6), 150);
        CHECK.due("nine answers: the third landau's third", x.book(149, 2), 3);
        CHECK.due("an answer", x.book(149, 1) <= 1, true);
        x.undo();
        CHECK.due("undone", x.look(6), 141);

        CHECK.says("how much: 4: CHILDREN then; 5: GLAD of before; 2: her landau; 3: her points; 0, 1: the NUMBER asked");
        x = Town.of(4, 1);
        Check.tell(x, 1, "ask 99; ask 0;");
        Check.tell(x, 0, "joy 0; counts 0-99; yes 0;");
        x.cough(3, true);
        x.wed(0, 1, 2, 3);
        CHECK.due("99", x.book(2, 3), 99);
        CHECK.due("0", x.book(3, 3), 0);
        CHECK.due("landau", x.book(6, 3), 2);
        CHECK.due("points", x.book(7, 3), -188);
        x.set(5, 0, -99);
        x.part(0);
        CHECK.due("GLAD", x.book(8, 3), -99);
        CHECK.due("who", x.book(8, 2), 0);
    }

    private static void looks() {
        CHECK.says("P42: NONE - 9999 for another what");
        VeiledLandaus x = Town.of(3, 1);
        for (int what : new int[] {-1, 13, 14}) CHECK.due("look(" + what + ")", x.look(what), NOTHING);
        for (int what : Town.FAR) CHECK.due("look(" + what + ")", x.look(what), NOTHING);
        CHECK.says("P42: STATE as it is");
        x.state(-10000);
        CHECK.due("look(7)", x.look(7), -10000);
        x.state(Integer.MIN_VALUE);
        CHECK.due("look(7)", x.look(7), Integer.MIN_VALUE);
        CHECK.says("P42: 12 what can be undone (6 are kept)");
        for (int i = 1; i <= 8; i++) {
            x.years(1);
            CHECK.due("look(12)", x.look(12), Math.min(i, 6));
        }
        x.years(60);
        CHECK.due("look(12)", x.look(12), 6);
    }
}
