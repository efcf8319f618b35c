/** Promises 40 and 41: what is undone, and the image. */
public final class BackTest {
    private static final Check CHECK = new Check("BackTest");

    public static void main(String[] args) {
        six();
        allOfIt();
        whatForgets();
        whatDoesNot();
        images();
        imageOfPeople();
        imageOfAll();
        CHECK.close();
    }

    private static VeiledLandaus town() {
        VeiledLandaus x = new VeiledLandaus();
        for (int i = 0; i < 5; i++) x.woman(i, i + 3, 0);
        x.groom(1, 1);
        x.groom(2, 2);
        Check.tell(x, 1, "ask 3; ask 4;");
        return x;
    }

    private static void six() {
        VeiledLandaus x = town();
        CHECK.due("P40 nothing", x.undo(), false);
        x.years(4);
        CHECK.due("P40 four", x.look(12), 4);
        x.cough(0, true);
        x.cough(1, true);
        CHECK.due("P40 six", x.look(12), 6);
        x.cough(2, true);
        CHECK.due("P40 six are kept", x.look(12), 6);
        CHECK.due("P40 undo", x.undo(), true);
        CHECK.due("P40 cough", x.look(4), 3);
        x.undo();
        x.undo();
        CHECK.due("P40 coughs", x.look(4), 0);
        CHECK.due("P40 year", x.look(2), 4);
        x.undo();
        x.undo();
        CHECK.due("P40 the sixth", x.undo(), true);
        CHECK.due("P40 year", x.look(2), 1);
        CHECK.due("P40 no seventh", x.undo(), false);
        x.years(60);
        CHECK.due("P40 six of sixty", x.look(12), 6);
        x.undo();
        x.years(1);
        CHECK.due("P40 one again", x.look(12), 6);
        for (int i = 0; i < 6; i++) CHECK.due("P40 back", x.undo(), true);
        CHECK.due("P40 year", x.look(2), 55);
        CHECK.due("P40 nothing more", x.undo(), false);
    }

    /** All that can be seen of grooms, women, town and book, as one number. */
    private static long sight(VeiledLandaus x) {
        long h = 7;
        for (int i = 0; i < 12; i++) h = h * 31 + x.look(i);
        for (int g = 0; g < 2; g++) for (int i = 0; i < 6; i++) h = h * 31 + x.who(g, i);
        for (int w = 0; w < 5; w++) for (int i = 0; i < 6; i++) h = h * 31 + x.of(w, i);
        for (int l = 0; l < x.look(6); l++) for (int i = 0; i < 4; i++) h = h * 31 + x.book(l, i);
        return h;
    }

    /** The first so many of five things done. */
    private static VeiledLandaus done(int many) {
        VeiledLandaus x = town();
        x.cough(1, true);
        x.state(4711);
        if (many > 0) x.wed(0, 0, 1, 2);
        if (many > 1) x.years(1);
        if (many > 2) x.part(0);
        if (many > 3) x.cough(3, true);
        if (many > 4) x.wed(1, 3, 2, 4);
        return x;
    }

    /** By an object each, so that none is asked too often. */
    private static void allOfIt() {
        for (int i = 4; i >= 0; i--) {
            VeiledLandaus x = done(5);
            CHECK.due("P40 five", x.look(12), 5);
            for (int n = 5; n > i; n--) CHECK.due("P40 undo", x.undo(), true);
            CHECK.due("P40 all goes back, " + i, sight(x), sight(done(i)));
        }
        VeiledLandaus x = done(5);
        for (int n = 0; n < 5; n++) x.undo();
        CHECK.due("P40 state", x.look(7), 4711);
        x.wed(0, 0, 1, 2);
        CHECK.due("P40 the same draws come again", sight(x), sight(done(1)));
    }

    private static void whatForgets() {
        for (int i = 0; i < 8; i++) {
            VeiledLandaus x = town();
            x.image(true);
            x.years(2);
            switch (i) {
                case 0: x.state(0); break;
                case 1: x.woman(0, 0, 0); break;
                case 2: x.groom(0, 0); break;
                case 3: x.set(0, 0, 0); break;
                case 4: x.set(5, 0, 0); break;
                case 5: Check.tell(x, 1, "ask 1;"); break;
                case 6: Check.tell(x, 2, "in 9 part 0;"); break;
                default: x.image(false); break;
            }
            CHECK.due("P40 forgotten by " + i, x.look(12), 0);
            CHECK.due("P40 nothing to undo after " + i, x.undo(), false);
        }
    }

    private static void whatDoesNot() {
        VeiledLandaus x = town();
        x.years(2);
        Check.tell(x, 0, "joy 5;");
        Check.tell(x, 3, "woman 0 sister 1;");
        Check.tell(x, 1, "nonsense");
        x.text(7);
        x.image(true);
        x.woman(10, 0, 0);
        x.groom(0, 7);
        x.set(9, 0, 0);
        x.wed(7, 0, 1, 2);
        x.part(0);
        x.cough(0, false);
        x.years(0);
        x.goes(3, 0);
        x.would(0, 0, 1, 2, 0);
        CHECK.due("P40 two", x.look(12), 2);
        x.undo();
        CHECK.due("P40 year", x.look(2), 1);
        CHECK.due("P40 the law stays", x.who(0, 10), 5);
        CHECK.due("P40 the sisters stay", x.of(0, 4), 2);
    }

    private static void images() {
        VeiledLandaus x = town();
        CHECK.due("P41 none", x.image(false), false);
        CHECK.due("P41 taken", x.image(true), true);
        long first = sight(x);
        x.years(3);
        x.wed(0, 0, 1, 2);
        CHECK.due("P41 gone back", x.image(false), true);
        CHECK.due("P41 as it was", sight(x), first);
        x.wed(1, 0, 1, 2);
        CHECK.due("P41 more than once", x.image(false), true);
        CHECK.due("P41 as it was", sight(x), first);
        x.years(1);
        long second = sight(x);
        CHECK.due("P41 taken anew", x.image(true), true);
        CHECK.due("P41 the taking leaves what can be undone", x.look(12), 1);
        x.undo();
        CHECK.due("P41 undone", sight(x), first);
        x.image(false);
        CHECK.due("P41 the newer one", sight(x), second);
        CHECK.due("P41 nothing to undo then", x.undo(), false);
        x.woman(0, 0, 0);
        x.groom(0, 5);
        x.image(false);
        CHECK.due("P41 women", x.look(0), 5);
        CHECK.due("P41 grooms", x.look(1), 2);
        Check.lay(x, "ask 1; ask 2; as");
        CHECK.due("P13", x.text(1), -1);
        Check.lay(x, "ask 7;");
        x.image(false);
        CHECK.due("P41 not the fault", x.fault(1), 14);
        CHECK.due("P41 not the tape", x.text(1), 1);
    }

    private static void imageOfPeople() {
        VeiledLandaus x = town();
        x.wed(0, 0, 1, 2);
        x.cough(4, true);
        x.years(30);
        x.image(true);
        long before = sight(x);
        for (int what = 0; what <= 2; what++) x.set(what, 3, 9 - x.of(3, what));
        x.set(3, 1, 8);
        x.set(4, 1, 0);
        x.set(5, 1, -40);
        x.part(0);
        x.wed(1, 3, 2, 1);
        x.years(9);
        x.image(false);
        CHECK.due("P41 all of women and grooms", sight(x), before);
        x.undo();
        CHECK.due("P41 nothing to undo", sight(x), before);
    }

    private static void imageOfAll() {
        VeiledLandaus x = town();
        Check.tell(x, 0, "joy 2;");
        Check.tell(x, 2, "in 5 cough 0;");
        Check.tell(x, 3, "woman 0 sister 1;");
        x.man(0, 1, true);
        x.guess(0, 0, 0);
        x.bet(0, 200);
        x.bet(1, 200);
        x.bet(2, 200);
        x.street(0, 1);
        x.step(5);
        x.carriage(0, 5, 5);
        x.offer(5);
        x.set(3, 0, 9);
        x.plumes(2);
        int next = x.plumes(2);
        x.image(true);
        Check.tell(x, 0, "joy 3; joy 4;");
        Check.tell(x, 1, "");
        Check.tell(x, 2, "");
        Check.tell(x, 3, "");
        x.man(-1, 0, true);
        x.guess(-1, 0, 0);
        x.bet(-1, 0);
        x.street(-1, 0);
        x.step(-1);
        x.carriage(0, 30, 30);
        x.offer(-1);
        x.set(3, 0, 1);
        x.plumes(2);
        x.image(false);
        CHECK.due("P41 law", x.look(8), 1);
        CHECK.due("P41 law", x.who(0, 10), 2);
        CHECK.due("P41 questions", x.look(9), 2);
        CHECK.due("P41 years", x.look(10), 1);
        CHECK.due("P41 sisters", x.of(1, 4), 1);
        CHECK.due("P41 old men", x.liars(0), 32);
        CHECK.due("P41 guesses", x.plumes(0), 125);
        CHECK.due("P41 guesses", x.plumes(2), next);
        CHECK.due("P41 bets", x.safe(3, 0), 2);
        CHECK.due("P41 streets", x.ways(0, 1, 1), 1);
        CHECK.due("P41 steps", x.alike(0, 0), 1);
        CHECK.due("P41 carriages", x.down(1), 10);
        CHECK.due("P41 offers", x.stop(1), 1);
        CHECK.due("P41 nerve", x.who(0, 0), 9);
        CHECK.due("P41 how many told", x.street(1, 2), 2);
    }
}
