import java.util.function.IntUnaryOperator;

/** "or another what", for each call that has one: all numbers near 0, and some far out. */
public final class WhatEdgeTest {
    private static final Check CHECK = new Check("WhatEdgeTest");
    private static final int NEAR = 130;

    public static void main(String[] args) {
        ofTheTown();
        ofThoughts();
        ofRiddles();
        ofSet();
        CHECK.close();
    }

    /** A town in which each question has something to tell. */
    private static VeiledLandaus town() {
        VeiledLandaus x = Town.sure(7, 2, "joy 3;", 2);
        x.wed(0, 1, 2, 3);
        x.set(5, 0, 99);
        x.state(Draws.of(0));
        x.years(1);
        x.state(Draws.of(0));
        x.years(1);
        x.man(0, 1, true);
        x.guess(123, 1, 0);
        for (int i = 0; i < 3; i++) x.bet(i, 300);
        x.street(0, 1);
        x.step(5);
        x.offer(5);
        return x;
    }

    /** Each what but these answers as the document says. */
    private static void others(String call, IntUnaryOperator answer, int due, int... whats) {
        CHECK.says(call + ": another what");
        for (int what = -NEAR; what <= NEAR; what++) once(call, answer, due, what, whats);
        for (int what : Town.FAR) once(call, answer, due, what, whats);
    }

    private static void once(String call, IntUnaryOperator answer, int due, int what, int... whats) {
        boolean is = false;
        for (int w : whats) is |= w == what;
        if (is) {
            CHECK.due(call + " of what " + what + " tells", answer.applyAsInt(what) != due, true);
        } else {
            CHECK.due(call + " of what " + what, answer.applyAsInt(what), due);
        }
    }

    private static void ofTheTown() {
        VeiledLandaus x = town();
        others("of", what -> x.of(1, what), -2, 0, 1, 2, 3, 4, 5);
        VeiledLandaus y = town();
        others("who", what -> y.who(0, what), -100, 0, 1, 2, 3, 4, 5, 10, 11, 12, 13, 14, 15, 16);
        VeiledLandaus z = town();
        others("book", what -> z.book(0, what), -10000, 0, 1, 2, 3);
        VeiledLandaus w = town();
        others("look", w::look, -10000, 0, 1, 2, 3, 4, 5, 6, 7, 8, 9, 10, 11, 12);
        VeiledLandaus v = town();
        Check.tell(v, 1, "ask 100;");
        others("fault", v::fault, -1, 0, 1);
    }

    private static void ofThoughts() {
        VeiledLandaus x = town();
        others("would", what -> x.would(0, 1, 2, 3, what), -10000, 0, 1);
        VeiledLandaus y = town();
        others("goes", what -> y.goes(2, what), -10000, 0, 1, 2, 3);
        VeiledLandaus z = town();
        others("tells", what -> z.tells(0, 0, 1, 2, what), -1, 0, 1);
        VeiledLandaus w = town();
        others("sent", what -> w.sent(0, what), -10000, 0, 1);
    }

    private static void ofRiddles() {
        VeiledLandaus x = town();
        // nobody is ever SURE, so 10 .. 15 tell NONE, too
        others("liars", x::liars, -1, 0, 1);
        VeiledLandaus y = town();
        others("plumes", y::plumes, -1, 0, 1, 2);
        VeiledLandaus z = town();
        others("safe", what -> z.safe(30, what), -1, 0, 10, 11, 12);
        VeiledLandaus w = town();
        others("ways", what -> w.ways(0, 1, what), -1, 0, 1);
        VeiledLandaus v = town();
        others("groups", v::groups, -1, 0, 1);
        VeiledLandaus u = town();
        others("alike", what -> u.alike(3, what), -1, 0, 1);
        VeiledLandaus t = town();
        others("down", t::down, -1, 0, 1);
        VeiledLandaus s = town();
        others("stop", s::stop, -1, 0, 1);
        VeiledLandaus r = town();
        CHECK.due("CHILDREN to take", r.who(0, 4), 2);
        others("game", r::game, -1, 0, 1);
    }

    private static void ofSet() {
        VeiledLandaus x = town();
        others("set", what -> x.set(what, 0, 1) ? 1 : 0, 0, 0, 1, 2, 3, 4, 5);
    }
}
