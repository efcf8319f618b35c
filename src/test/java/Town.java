/** Towns to begin with, and numbers that are far out. */
final class Town {
    /** Numbers that no row has, and that shifts or sums could take for others. */
    static final int[] FAR = {Integer.MIN_VALUE, Integer.MIN_VALUE + 1, -65536, -256, -64, -33, -32, -31, -2, 31, 32, 33, 64,
        256, 65536, 1 << 30, Integer.MAX_VALUE - 1, Integer.MAX_VALUE};

    private Town() {
    }

    /** WOMEN of HEART 0 and ROTE 0, their STEP their number (the last ones' 9); GROOMS pledged to WOMAN 0. */
    static VeiledLandaus of(int women, int grooms) {
        VeiledLandaus x = new VeiledLandaus();
        for (int i = 0; i < women; i++) x.woman(Math.min(i, 9), 0, 0);
        for (int i = 0; i < grooms; i++) x.groom(i, 0);
        return x;
    }

    /** A town whose law makes all say yes or no for sure, with as many QUESTIONS. */
    static VeiledLandaus sure(int women, int grooms, String law, int questions) {
        VeiledLandaus x = of(women, grooms);
        if (Check.tell(x, 0, law) < 0 || Check.tell(x, 1, "ask 1;".repeat(questions)) != questions) {
            throw new IllegalStateException("not a law: " + law);
        }
        return x;
    }
}
