/** Counts answers that are not the ones that are due. */
final class Check {
    private final String name;
    private String sentence = "";
    private int made;
    private int wrong;

    Check(String name) {
        this.name = name;
    }

    /** The sentence of the document that the answers from here on are of. */
    void says(String sentence) {
        this.sentence = " [" + sentence + "]";
    }

    void due(String call, long got, long want) {
        made++;
        if (got != want) {
            wrong(call, String.valueOf(got), String.valueOf(want));
        }
    }

    private void wrong(String call, String got, String want) {
        wrong++;
        if (wrong <= 40) {
            System.out.println(name + sentence + ": " + call + " answered " + got + ", due is " + want);
        }
    }

    void due(String call, boolean got, boolean want) {
        due(call, got ? 1 : 0, want ? 1 : 0);
    }

    /** That nothing to be seen is another than before. */
    void same(String call, String got, String want) {
        made++;
        if (!got.equals(want)) {
            wrong(call, got, want);
        }
    }

    /** Feeds a text and has it taken as text k: what text() answers. */
    static int tell(VeiledLandaus x, int k, String text) {
        lay(x, text);
        return x.text(k);
    }

    /** Leaves just this text on the TAPE. */
    static void lay(VeiledLandaus x, String text) {
        x.end(0);
        for (int i = 0; i < text.length(); i += 20) {
            int[] row = new int[5];
            for (int j = 0; j < 20; j++) {
                int c = i + j < text.length() ? text.charAt(i + j) : ' ';
                row[j / 4] = row[j / 4] << 8 | c;
            }
            x.feed(row[0], row[1], row[2], row[3], row[4]);
        }
        x.end(text.length());
    }

    /** A text that is at fault: NONE, the FAULT and its place. */
    void faulty(VeiledLandaus x, int k, String text, int fault, int place) {
        due("text(" + k + ") of '" + text + "'", tell(x, k, text), -1);
        due("fault(0) of '" + text + "'", x.fault(0), fault);
        due("fault(1) of '" + text + "'", x.fault(1), place);
    }

    /** A text without fault: how many lines. */
    void sound(VeiledLandaus x, int k, String text, int lines) {
        due("text(" + k + ") of '" + text + "'", tell(x, k, text), lines);
        due("fault(0) of '" + text + "'", x.fault(0), 0);
        due("fault(1) of '" + text + "'", x.fault(1), -1);
    }

    void close() {
        System.out.println(name + ": " + made + " answers, " + wrong + " not as due");
        if (wrong != 0) {
            System.exit(1);
        }
    }
}
