/** What can be seen of an object without changing it, as one text of some 110 calls: what a refused call leaves as it is. */
final class Sight {
    private final VeiledLandaus x;
    private final StringBuilder seen = new StringBuilder();

    private Sight(VeiledLandaus x) {
        this.x = x;
    }

    static String of(VeiledLandaus x) {
        Sight sight = new Sight(x);
        sight.town();
        sight.thoughts();
        sight.riddles();
        return sight.seen.toString();
    }

    private void add(String name, int... answers) {
        seen.append(name);
        for (int a : answers) seen.append(' ').append(a);
        seen.append("; ");
    }

    private void town() {
        for (int i = 0; i <= 12; i++) add("look" + i, x.look(i));
        add("fault", x.fault(0), x.fault(1));
        for (int w = 0; w < Math.min(4, x.look(0)); w++) {
            for (int i = 0; i <= 5; i++) add("of" + w, x.of(w, i));
        }
        for (int g = 0; g < Math.min(2, x.look(1)); g++) {
            for (int i = 0; i <= 5; i++) add("who" + g, x.who(g, i));
            add("joy", x.who(g, 10), x.who(g, 11));
        }
        for (int i = 0; i <= 3; i++) add("book", x.book(x.look(6) - 1, i));
    }

    private void thoughts() {
        add("yes", x.yes(0, 0, 0, 0), x.yes(0, 1, 1, 2));
        add("counts", x.counts(0, 0, 0, 0, true), x.counts(0, 1, 1, 2, false));
        add("would", x.would(0, 0, 1, 2, 0), x.would(0, 0, 1, 2, 1));
        add("goes", x.goes(3, 0), x.goes(3, 1), x.goes(3, 2), x.goes(3, 3));
        add("tells", x.tells(0, 0, 1, 2, 0), x.tells(0, 0, 1, 2, 1));
        add("sent", x.sent(0, 0), x.sent(0, 1));
        add("kin", x.kin(0, 1), x.groups(0), x.groups(1));
        add("game", x.game(0), x.game(1));
    }

    private void riddles() {
        add("liars", x.liars(0), x.liars(1));
        add("plumes", x.plumes(0), x.plumes(1), x.plumes(2));
        add("safe", x.safe(300, 0), x.safe(300, 10), x.safe(300, 11));
        add("ways", x.ways(0, 1, 0), x.ways(0, 2, 0), x.ways(0, 1, 1), x.ways(0, 2, 1));
        add("alike", x.alike(99, 0), x.alike(0, 0), x.alike(3, 1));
        add("down", x.down(0), x.down(1));
        add("stop", x.stop(0), x.stop(1));
    }
}
