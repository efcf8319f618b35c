import java.util.function.Consumer;

/** Promises 40 and 41 (UNDO, THE IMAGE): each sentence that names an edge, by itself. */
public final class BackEdgeTest {
    private static final Check CHECK = new Check("BackEdgeTest");

    public static void main(String[] args) {
        nothingToUndo();
        sixAreKept();
        eachGoesBack();
        whatForgets();
        whatForgetsNot();
        refusedForgetsNot();
        thoughtStays();
        fullBook();
        noImage();
        imageAgain();
        notInTheImage();
        fullImage();
        imageByImage();
        lastOnes();
        CHECK.close();
    }

    /** Seven WOMEN, two GROOMS, two QUESTIONS. */
    private static VeiledLandaus town() {
        return Town.sure(7, 2, "joy 3;", 2);
    }

    private static void nothingToUndo() {
        CHECK.says("P40: false if there is nothing");
        VeiledLandaus x = new VeiledLandaus();
        CHECK.due("in an empty church", x.undo(), false);
        x = town();
        String before = Sight.of(x);
        CHECK.due("told, but nothing done", x.undo(), false);
        CHECK.same("nothing is undone", Sight.of(x), before);
        x.years(1);
        CHECK.due("the one", x.undo(), true);
        CHECK.due("no other", x.undo(), false);
        CHECK.due("no other", x.undo(), false);
        CHECK.same("as it was", Sight.of(x), before);
    }

    private static void sixAreKept() {
        CHECK.says("UNDO: the latest .. told not undone yet goes back: 6 are kept");
        for (int done = 1; done <= 9; done++) {
            VeiledLandaus x = town();
            for (int i = 0; i < done; i++) x.cough(i % 7, i < 7);
            int kept = Math.min(done, 6);
            CHECK.due(done + " done", x.look(12), kept);
            for (int i = 1; i <= kept; i++) {
                CHECK.due(done + " done, undo " + i, x.undo(), true);
                CHECK.due(done + " done, left", x.look(12), kept - i);
            }
            CHECK.due(done + " done, one more", x.undo(), false);
            int left = 0;
            for (int i = 0; i < done - kept; i++) left |= 1 << i;
            CHECK.due(done + " done: the oldest stay", x.look(4), left);
        }
        CHECK.says("the latest YEAR: each year of years(n) by itself");
        VeiledLandaus x = town();
        x.years(5);
        CHECK.due("five", x.look(12), 5);
        x.years(60);
        CHECK.due("six of 65", x.look(12), 6);
        for (int i = 1; i <= 6; i++) {
            x.undo();
            CHECK.due("YEAR", x.look(2), 65 - i);
        }
        CHECK.due("no seventh", x.undo(), false);
        CHECK.says("not undone yet: what is undone makes room again");
        for (int i = 0; i < 20; i++) {
            x.cough(1, true);
            x.years(2);
            CHECK.due("three", x.look(12), 3);
            x.undo();
            x.undo();
            x.years(7);
            CHECK.due("six", x.look(12), 6);
            for (int j = 0; j < 6; j++) x.undo();
            CHECK.due("none", x.undo(), false);
            x.cough(1, false);
            x.undo();
            CHECK.due("the last one alone", x.undo(), false);
            CHECK.due("she coughs", x.look(4), 2);
            x.cough(1, false);
            x.state(i);
        }
    }

    private static void undone(String call, VeiledLandaus x, Consumer<VeiledLandaus> done) {
        String before = Sight.of(x);
        int kept = x.look(12);
        done.accept(x);
        CHECK.due(call + " can be undone", x.look(12), kept + 1);
        CHECK.due(call + " undone", x.undo(), true);
        CHECK.same(call + " goes back", Sight.of(x), before);
    }

    private static void eachGoesBack() {
        CHECK.says("the latest YEAR, WEDDING, PARTING, COUGH goes back (STATE, THE BOOK, too)");
        VeiledLandaus x = town();
        x.state(-77);
        undone("a COUGH", x, y -> y.cough(1, true));
        undone("a WEDDING", x, y -> y.wed(0, 0, 1, 2));
        x = town();
        x.state(-77);
        undone("a YEAR", x, y -> y.years(1));
        x = town();
        x.cough(1, true);
        undone("a COUGH not", x, y -> y.cough(1, false));
        x = town();
        x.cough(1, true);
        x.state(12345);
        undone("a WEDDING with a cough", x, y -> y.wed(1, 0, 1, 2));
        x = town();
        x.wed(1, 0, 1, 2);
        x.set(5, 1, 88);
        undone("a PARTING", x, y -> y.part(1));
        x = town();
        Check.tell(x, 2, "in 0 wed 0 0 1 2; in 0 cough 3; in 0 wed 1 3 4 5; in 0 part 0; in 0 wed 0 6 0 1; in 0 cough 5;");
        x.state(9);
        undone("a YEAR of many lines", x, y -> y.years(1));
        x = town();
        x.wed(0, 0, 1, 2);
        x.set(5, 0, 96);
        x.state(Draws.of(0));
        undone("a YEAR with a child", x, y -> y.years(1));
        x = town();
        x.wed(1, 3, 4, 5);
        undone("WEDS and TOWN", x, y -> y.wed(0, 0, 1, 2));
        CHECK.due("WEDS", x.who(1, 5), 1);
        x.undo();
        CHECK.due("WEDS of none", x.who(1, 5), 0);
        CHECK.says("undone and done anew: the same DRAWS");
        x = town();
        x.state(31);
        int bride = x.wed(0, 4, 5, 6);
        String after = Sight.of(x);
        x.undo();
        CHECK.due("whom he takes", x.wed(0, 4, 5, 6), bride);
        CHECK.same("all as the first time", Sight.of(x), after);
    }

    private static void forgotten(String call, Consumer<VeiledLandaus> told) {
        VeiledLandaus x = town();
        x.image(true);
        x.wed(0, 1, 2, 3);
        x.years(2);
        x.cough(0, true);
        CHECK.due("kept before " + call, x.look(12), 4);
        told.accept(x);
        CHECK.due("kept after " + call, x.look(12), 0);
        CHECK.due("undo after " + call, x.undo(), false);
    }

    private static void whatForgets() {
        CHECK.says("UNDO: whatever else is told forgets them");
        forgotten("STATE", x -> x.state(5));
        forgotten("STATE as it is", x -> x.state(x.look(7)));
        forgotten("a WOMAN", x -> x.woman(1, 1, 1));
        forgotten("a GROOM", x -> x.groom(1, 1));
        forgotten("STEP", x -> x.set(0, 0, 5));
        forgotten("HEART", x -> x.set(1, 6, 5));
        forgotten("ROTE", x -> x.set(2, 0, 5));
        forgotten("ROTE as it is", x -> x.set(2, 0, 0));
        forgotten("NERVE", x -> x.set(3, 0, 5));
        forgotten("PLEDGED", x -> x.set(4, 1, 5));
        forgotten("GLAD", x -> x.set(5, 0, -99));
        forgotten("QUESTIONS", x -> Check.tell(x, 1, "ask 1;"));
        forgotten("no QUESTIONS", x -> Check.tell(x, 1, ""));
        forgotten("YEARS", x -> Check.tell(x, 2, "in 1 cough 0;"));
        forgotten("no YEARS", x -> Check.tell(x, 2, ""));
        forgotten("THE IMAGE gone back to", x -> x.image(false));
        VeiledLandaus x = new VeiledLandaus();
        x.years(1);
        CHECK.due("the first WOMAN of all", x.woman(0, 0, 0), 0);
        CHECK.due("forgets", x.look(12), 0);
        x.years(1);
        CHECK.due("the first GROOM of all", x.groom(0, 0), 0);
        CHECK.due("forgets", x.look(12), 0);
        x.years(1);
        CHECK.due("kept anew", x.undo(), true);
        CHECK.due("YEAR", x.look(2), 2);
    }

    private static void whatForgetsNot() {
        CHECK.says("but THE LAW, SISTERS and what is told for thought (the taking of THE IMAGE does not)");
        VeiledLandaus x = town();
        x.wed(0, 1, 2, 3);
        x.years(2);
        x.cough(0, true);
        keeps("THE LAW", x, Check.tell(x, 0, "joy 0-2; counts 3;"), 2);
        keeps("no LAW", x, Check.tell(x, 0, ""), 0);
        keeps("SISTERS", x, Check.tell(x, 3, "woman 0 sister 1;"), 1);
        keeps("no SISTERS", x, Check.tell(x, 3, ""), 0);
        keeps("an OLD MAN", x, x.man(0, 1, true), 1);
        keeps("no OLD MEN", x, x.man(-1, 0, true), 0);
        keeps("a GUESS", x, x.guess(12, 1, 1), 1);
        keeps("no GUESSES", x, x.guess(-1, 0, 0), 0);
        keeps("a BET", x, x.bet(0, 200), 1);
        keeps("no BETS", x, x.bet(-1, 0), 0);
        keeps("a STREET", x, x.street(0, 1), 1);
        keeps("no STREETS", x, x.street(-1, 0), 0);
        keeps("a step", x, x.step(5), 1);
        keeps("no steps", x, x.step(-1), 0);
        keeps("a carriage", x, x.carriage(0, 5, 5) ? 1 : 0, 1);
        keeps("an offer", x, x.offer(5), 1);
        keeps("no offers", x, x.offer(-1), 0);
        keeps("THE IMAGE taken", x, x.image(true) ? 1 : 0, 1);
        keeps("THE IMAGE taken again", x, x.image(true) ? 1 : 0, 1);
        keeps("the TAPE", x, x.feed(1, 2, 3, 4, 5), 20);
        keeps("its end", x, x.end(7) ? 1 : 0, 1);
        keeps("a question", x, x.fault(0), 0);
        CHECK.due("and all can be undone", x.undo() && x.undo() && x.undo() && x.undo(), true);
        CHECK.due("YEAR", x.look(2), 0);
        CHECK.due("WIFE", x.who(0, 2), -1);
    }

    private static void keeps(String call, VeiledLandaus x, int got, int want) {
        CHECK.due(call, got, want);
        CHECK.due(call + " forgets nothing", x.look(12), 4);
    }

    private static void refusedForgetsNot() {
        CHECK.says("UNDO: what is refused is not told");
        VeiledLandaus x = Town.sure(12, 8, "joy 3;", 2);
        CHECK.due("none to go back to", x.image(false), false);
        x.wed(0, 1, 2, 3);
        x.years(2);
        x.cough(0, true);
        keeps("a thirteenth WOMAN", x, x.woman(1, 1, 1), -1);
        keeps("a WOMAN", x, x.woman(10, 1, 1), -1);
        keeps("a ninth GROOM", x, x.groom(1, 1), -1);
        keeps("a GROOM", x, x.groom(1, 12), -1);
        for (int what = -1; what <= 6; what++) keeps("set " + what, x, x.set(what, 0, 100) ? 1 : 0, 0);
        keeps("a WEDDING", x, x.wed(0, 4, 5, 6), -1);
        keeps("a PARTING", x, x.part(1) ? 1 : 0, 0);
        keeps("a COUGH", x, x.cough(0, true) ? 1 : 0, 0);
        keeps("YEARS", x, x.years(61), -1);
        keeps("YEARS", x, x.years(0), -1);
        keeps("QUESTIONS with a FAULT", x, Check.tell(x, 1, "ask 100;"), -1);
        keeps("YEARS with a FAULT", x, Check.tell(x, 2, "in 1000 part 0;"), -1);
        keeps("no such text", x, x.text(4), -1);
        keeps("no such text", x, x.text(-1), -1);
        CHECK.due("the latest still goes back", x.undo(), true);
        CHECK.due("she coughs no more", x.look(4), 0);
        CHECK.due("three are left", x.look(12), 3);
    }

    private static void thoughtStays() {
        CHECK.says("UNDO: what is told for thought, THE LAW and SISTERS stay as they are");
        VeiledLandaus x = town();
        x.years(1);
        Check.tell(x, 0, "joy 5;");
        Check.tell(x, 3, "woman 5 sister 6;");
        x.man(0, 1, true);
        x.guess(0, 0, 0);
        for (int i = 0; i < 3; i++) x.bet(i, 300);
        x.street(0, 1);
        x.step(5);
        x.carriage(2, 9, 9);
        x.offer(5);
        x.undo();
        CHECK.due("YEAR", x.look(2), 0);
        CHECK.due("joy", x.who(0, 10), 5);
        CHECK.due("kin", x.kin(5, 6), 1);
        CHECK.due("liars", x.liars(0), 32);
        CHECK.due("plumes", x.plumes(0), 125);
        CHECK.due("safe", x.safe(3, 0), 3);
        CHECK.due("ways", x.ways(0, 1, 1), 1);
        CHECK.due("alike", x.alike(0, 0), 1);
        CHECK.due("down", x.down(1), 18);
        CHECK.due("stop", x.stop(1), 1);
    }

    private static void fullBook() {
        CHECK.says("THE BOOK, too: full, and back");
        VeiledLandaus x = Town.sure(4, 1, "", 16);
        for (int i = 0; i < 3; i++) {
            x.wed(0, 1, 2, 3);
            x.part(0);
        }
        CHECK.due("150 lines", x.look(6), 150);
        x.wed(0, 1, 2, 3);
        x.part(0);
        int[] lines = {150, 150, 149, 100, 99, 50};
        for (int i = 0; i < 6; i++) {
            CHECK.due("undo", x.undo(), true);
            CHECK.due("lines", x.look(6), lines[i]);
            CHECK.due("no line behind", x.book(lines[i], 0), -10000);
        }
        CHECK.due("the first parting is kept", x.book(49, 1), 5);
        CHECK.due("nothing more", x.undo(), false);
    }

    private static void noImage() {
        CHECK.says("P41: false if there is none");
        VeiledLandaus x = town();
        x.years(2);
        String before = Sight.of(x);
        CHECK.due("none", x.image(false), false);
        CHECK.due("none", x.image(false), false);
        CHECK.same("nothing changes", Sight.of(x), before);
        CHECK.due("what can be undone stays", x.look(12), 2);
        CHECK.due("taken", x.image(true), true);
        CHECK.same("nothing changes", Sight.of(x), before);
        CHECK.due("gone back", x.image(false), true);
        CHECK.due("of another object: none", town().image(false), false);
        CHECK.says("THE IMAGE of an empty church");
        x = new VeiledLandaus();
        x.image(true);
        before = Sight.of(x);
        x.woman(1, 1, 1);
        x.groom(1, 0);
        x.years(3);
        x.offer(5);
        x.image(false);
        CHECK.same("empty again", Sight.of(x), before);
        CHECK.due("the first WOMAN again", x.woman(1, 1, 1), 0);
        CHECK.due("WED to none", x.of(0, 3), -1);
    }

    private static void imageAgain() {
        CHECK.says("gone back to it may be more than once");
        VeiledLandaus x = town();
        x.state(3);
        x.image(true);
        String taken = Sight.of(x);
        int bride = -2;
        for (int i = 0; i < 3; i++) {
            int now = x.wed(0, 4, 5, 6);
            CHECK.due("the same DRAWS each time", bride == -2 || now == bride, true);
            bride = now;
            x.years(3 + i);
            x.image(false);
        }
        CHECK.same("gone back thrice", Sight.of(x), taken);
        x.image(false);
        x.image(false);
        CHECK.due("gone back at once again", x.look(2), 0);
        CHECK.says("as it was when it was taken: the latest one");
        x.years(1);
        x.image(true);
        x.years(1);
        x.image(false);
        CHECK.due("the newer one", x.look(2), 1);
        x.image(false);
        CHECK.due("the newer one", x.look(2), 1);
        CHECK.says("(nothing then): can be undone");
        x.years(2);
        x.image(false);
        CHECK.due("look(12)", x.look(12), 0);
        CHECK.due("undo", x.undo(), false);
        CHECK.due("YEAR", x.look(2), 1);
        x.years(1);
        x.undo();
        CHECK.due("YEAR", x.look(2), 1);
    }

    private static void notInTheImage() {
        CHECK.says("all but the TAPE, fault()");
        VeiledLandaus x = town();
        Check.tell(x, 1, "ask 1; ask 100;");
        Check.lay(x, "ask 3; ask 4; ask 5;");
        x.image(true);
        CHECK.due("fault", x.fault(0), 2);
        CHECK.due("its place", x.fault(1), 11);
        CHECK.due("the TAPE is not taken away", x.end(20), true);
        CHECK.due("three", x.text(1), 3);
        CHECK.due("fault", x.fault(0), 0);
        x.image(false);
        CHECK.due("fault stays", x.fault(0), 0);
        CHECK.due("its place stays", x.fault(1), -1);
        CHECK.due("QUESTIONS go back", x.look(9), 2);
        CHECK.due("the TAPE stays empty", x.end(1), false);
        Check.lay(x, "ask 7;");
        x.image(false);
        CHECK.due("the TAPE stays", x.end(6), true);
        CHECK.due("no longer", x.end(7), false);
        CHECK.due("it is a text", x.text(1), 1);
        Check.tell(x, 2, "in;");
        x.image(false);
        CHECK.due("a newer fault stays", x.fault(0), 1);
        CHECK.due("its place", x.fault(1), 2);
        CHECK.says("a text of now is of the WOMEN of now");
        x = Town.of(3, 0);
        x.image(true);
        x.woman(0, 0, 0);
        Check.lay(x, "woman 3 sister 1;");
        x.image(false);
        CHECK.due("no such WOMAN now", x.text(3), -1);
        CHECK.due("fault", x.fault(0), 2);
        CHECK.due("its place", x.fault(1), 6);
    }

    private static VeiledLandaus full() {
        VeiledLandaus x = Town.sure(12, 8, "joy 1;".repeat(16), 16);
        Check.tell(x, 2, "in 500 part 0;".repeat(16));
        Check.tell(x, 3, "woman 10 sister 11;".repeat(16));
        for (int i = 0; i < 10; i++) x.man(i % 6, i % 6, false);
        for (int i = 0; i < 8; i++) x.guess(0, 0, 0);
        for (int i = 0; i < 6; i++) x.bet(i % 3, 300);
        for (int i = 0; i < 16; i++) x.street(i % 2, 9);
        for (int i = 0; i < 12; i++) x.step(50);
        for (int i = 0; i < 7; i++) x.offer(9);
        for (int i = 0; i < 3; i++) x.carriage(i, 30 - i, 30);
        for (int i = 0; i < 12; i++) x.cough(i, true);
        x.wed(7, 9, 10, 11);
        x.years(9);
        return x;
    }

    private static void fullImage() {
        CHECK.says("all that is and was told: as full as can be");
        VeiledLandaus x = full();
        x.image(true);
        String taken = brief(x);
        Check.tell(x, 0, "");
        Check.tell(x, 1, "");
        Check.tell(x, 2, "");
        Check.tell(x, 3, "");
        x.man(-1, 0, true);
        x.guess(-1, 0, 0);
        x.bet(-1, 0);
        x.street(-1, 0);
        x.step(-1);
        x.offer(-1);
        for (int i = 0; i < 3; i++) x.carriage(i, 1, 0);
        for (int i = 0; i < 5; i++) x.set(i, 7, 6);
        x.part(7);
        x.wed(0, 0, 1, 2);
        x.years(5);
        x.state(1);
        CHECK.due("another then", brief(x).equals(taken), false);
        x.image(false);
        CHECK.same("gone back", brief(x), taken);
        CHECK.due("full of OLD MEN", x.man(0, 1, true), -1);
        CHECK.due("full of GUESSES", x.guess(0, 0, 0), -1);
        CHECK.due("full of BETS", x.bet(0, 300), -1);
        CHECK.due("full of STREETS", x.street(0, 1), -1);
        CHECK.due("full of steps", x.step(1), -1);
        CHECK.due("full of offers", x.offer(1), -1);
        CHECK.due("full of WOMEN", x.woman(0, 0, 0), -1);
        CHECK.due("full of GROOMS", x.groom(0, 0), -1);
    }

    /** What a full town shows in few calls. */
    private static String brief(VeiledLandaus x) {
        StringBuilder seen = new StringBuilder();
        for (int i = 0; i < 12; i++) seen.append(x.look(i)).append(' ');
        for (int i = 0; i < 6; i++) seen.append(x.of(7, i)).append(' ').append(x.of(11, i)).append(' ');
        for (int i = 0; i < 6; i++) seen.append(x.who(7, i)).append(' ');
        seen.append(x.who(7, 21)).append(' ').append(x.yes(7, 11, 15, 2)).append(' ').append(x.book(x.look(6) - 1, 2));
        seen.append(' ').append(x.liars(0)).append(' ').append(x.plumes(0)).append(' ').append(x.plumes(2));
        seen.append(' ').append(x.safe(300, 0)).append(' ').append(x.ways(1, 9, 0)).append(' ').append(x.alike(0, 1));
        return seen.append(' ').append(x.down(0)).append(' ').append(x.down(1)).append(' ').append(x.stop(1)).toString();
    }

    private static void imageByImage() {
        CHECK.says("all that is and was told: each by itself");
        String[] names = {"STATE", "a WOMAN", "a GROOM", "STEP", "HEART", "ROTE", "NERVE", "PLEDGED", "GLAD", "a WEDDING",
            "a PARTING", "a COUGH", "a YEAR", "LAW", "QUESTIONS", "YEARS", "SISTERS", "an OLD MAN", "a GUESS", "a BET",
            "a STREET", "a step", "carriage 0", "carriage 1", "carriage 2", "an offer"};
        for (int i = 0; i < names.length; i++) {
            VeiledLandaus x = town();
            x.wed(1, 4, 5, 6);
            x.bet(0, 200);
            x.bet(1, 200);
            x.state(8);
            x.image(true);
            String taken = Sight.of(x) + x.groups(0) + x.who(1, 0) + x.game(0);
            change(x, i);
            CHECK.due("changed: " + names[i], (Sight.of(x) + x.groups(0) + x.who(1, 0) + x.game(0)).equals(taken), false);
            x.image(false);
            CHECK.same("gone back: " + names[i], Sight.of(x) + x.groups(0) + x.who(1, 0) + x.game(0), taken);
        }
    }

    private static void lastOnes() {
        CHECK.says("all that is and was told: of each WOMAN and each GROOM");
        VeiledLandaus x = new VeiledLandaus();
        for (int w = 0; w < 12; w++) x.woman(w % 10, (w + 3) % 10, (w + 7) % 10);
        for (int g = 0; g < 8; g++) {
            x.groom(g + 1, 11 - g);
            x.set(5, g, 10 - g);
        }
        x.cough(11, true);
        x.wed(7, 11, 10, 9);
        x.image(true);
        for (int w = 0; w < 12; w++) {
            for (int what = 0; what <= 2; what++) x.set(what, w, 9 - x.of(w, what));
        }
        for (int g = 0; g < 8; g++) {
            x.set(3, g, 0);
            x.set(4, g, 0);
            x.set(5, g, -3);
        }
        x.part(7);
        x.cough(11, true);
        x.image(false);
        for (int w = 0; w < 12; w++) {
            CHECK.due("STEP of " + w, x.of(w, 0), w % 10);
            CHECK.due("HEART of " + w, x.of(w, 1), (w + 3) % 10);
            CHECK.due("ROTE of " + w, x.of(w, 2), (w + 7) % 10);
            CHECK.due("WED of " + w, x.of(w, 3), w == 11 ? 7 : -1);
        }
        for (int g = 0; g < 8; g++) {
            CHECK.due("NERVE of " + g, x.who(g, 0), g + 1);
            CHECK.due("PLEDGED of " + g, x.who(g, 1), 11 - g);
            CHECK.due("WIFE of " + g, x.who(g, 2), g == 7 ? 11 : -1);
            CHECK.due("GLAD of " + g, x.who(g, 3), 10 - g);
            CHECK.due("WEDS of " + g, x.who(g, 5), g == 7 ? 1 : 0);
        }
        CHECK.due("COUGHS", x.look(4), 0);

        CHECK.says("all that is and was told: none for another");
        x = new VeiledLandaus();
        x.step(40);
        x.step(50);
        x.offer(1);
        x.offer(2);
        x.offer(3);
        x.man(0, 1, true);
        x.man(2, 3, true);
        x.man(4, 5, true);
        x.man(1, 2, false);
        x.guess(123, 0, 1);
        x.bet(0, 300);
        x.bet(1, 300);
        x.bet(2, 300);
        x.bet(2, 400);
        x.bet(0, 200);
        for (int i = 0; i < 6; i++) x.street(i, i + 1);
        int fits = x.plumes(0);
        x.image(true);
        x.step(-1);
        x.offer(-1);
        x.man(-1, 0, true);
        x.guess(-1, 0, 0);
        x.bet(-1, 0);
        x.street(-1, 0);
        x.image(false);
        CHECK.due("SILENCE", x.stop(1), 3);
        CHECK.due("ALIKE", x.alike(10, 0), 2);
        CHECK.due("ALIKE", x.alike(9, 0), 1);
        CHECK.due("OLD MEN", x.liars(0), 4);
        CHECK.due("PLUMES", x.plumes(0), fits);
        CHECK.due("BETS", x.safe(300, 0), 327);
        CHECK.due("STREETS", x.ways(0, 6, 1), 6);
        CHECK.due("how many: steps", x.step(0), 3);
        CHECK.due("how many: offers", x.offer(0), 4);
        CHECK.due("how many: OLD MEN", x.man(0, 0, false), 5);
        CHECK.due("how many: GUESSES", x.guess(0, 0, 0), 2);
        CHECK.due("how many: BETS", x.bet(0, 300), 6);
        CHECK.due("how many: STREETS", x.street(8, 9), 7);
    }

    private static void change(VeiledLandaus x, int i) {
        switch (i) {
            case 0: x.state(7); break;
            case 1: x.woman(1, 1, 1); break;
            case 2: x.groom(1, 1); break;
            case 3: x.set(0, 0, 9); break;
            case 4: x.set(1, 0, 9); break;
            case 5: x.set(2, 0, 9); break;
            case 6: x.set(3, 1, 9); break;
            case 7: x.set(4, 1, 3); break;
            case 8: x.set(5, 1, 50); break;
            case 9: x.wed(0, 0, 1, 2); break;
            case 10: x.part(1); break;
            case 11: x.cough(2, true); break;
            case 12: x.years(1); break;
            case 13: Check.tell(x, 0, "joy 4;"); break;
            case 14: Check.tell(x, 1, "ask 1; ask 1; ask 1;"); break;
            case 15: Check.tell(x, 2, "in 0 part 1;"); break;
            case 16: Check.tell(x, 3, "woman 0 sister 1;"); break;
            case 17: x.man(0, 1, true); break;
            case 18: x.guess(12, 0, 0); break;
            case 19: x.bet(2, 200); break;
            case 20: x.street(0, 1); break;
            case 21: x.step(4); break;
            case 22:
            case 23:
            case 24: x.carriage(i - 22, 9, 20); break;
            default: x.offer(5); break;
        }
    }
}
