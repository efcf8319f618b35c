/** STATES reckoned backwards: those after which a wanted DRAW comes. */
final class Draws {
    private static final int TIMES = 1664525;
    private static final int MORE = 1013904223;

    private Draws() {
    }

    static int next(int state) {
        return TIMES * state + MORE;
    }

    static int after(int state, int draws) {
        for (int i = 0; i < draws; i++) state = next(state);
        return state;
    }

    /** The STATE of before. */
    static int before(int state) {
        int inverse = TIMES;
        for (int i = 0; i < 6; i++) inverse *= 2 - TIMES * inverse;
        return (state - MORE) * inverse;
    }

    /** A STATE after which the next DRAW of 1000 is this one; the STATE of then is above 0. */
    static int of(int draw) {
        return before((draw + 3000 << 8) + 77);
    }

    /** Likewise, but the STATE of then is below 0, and its lowest eight bits are all there. */
    static int ofBelow(int draw) {
        int bits = (1 << 24) - 1000 - (1 << 24) % 1000 + draw;
        return before(bits << 8 | 255);
    }
}
