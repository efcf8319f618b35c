/** Promises 10 to 13 and the TEXTS of the Terms: each sentence that names an edge, by itself. */
public final class TextEdgeTest {
    private static final Check CHECK = new Check("TextEdgeTest");
    private static final String[] WORDS = {"yes", "counts", "joy", "when", "or", "and", "not", "step", "heart", "rote",
        "she", "said", "question", "place", "nerve", "year", "children", "glad", "ask", "in", "wed", "cough", "part",
        "woman", "sister"};
    private static final String[] SOUND = {"joy 1 ;", "ask 1 ;", "in 0 cough 1 ;", "woman 0 sister 1 ;"};

    public static void main(String[] args) {
        feeds();
        ends();
        texts();
        toldAgain();
        faults();
        signs();
        numbers();
        words();
        wholeLines();
        bounds();
        lines();
        openOnes();
        partsByNought();
        firstByPlace();
        CHECK.close();
    }

    private static void feeds() {
        CHECK.says("P10: of each number the highest first");
        VeiledLandaus x = Town.of(2, 0);
        CHECK.due("feed", x.feed(0x61736b20, 0x3132203b, 0x0a61736b, 0x2035203b, 0x20202020), 20);
        CHECK.due("'ask 12 ;' and 'ask 5 ;'", x.text(1), 2);
        x.groom(0, 0);
        Check.tell(x, 0, "yes question;");
        CHECK.due("12", x.yes(0, 0, 0, 0), 12);
        CHECK.due("5", x.yes(0, 0, 1, 0), 5);
        for (int place = 0; place < 20; place++) {
            int[] row = {0x20202020, 0x20202020, 0x20202020, 0x20202020, 0x20202020};
            row[place / 4] ^= (0x20 ^ 0xff) << 24 - place % 4 * 8;
            x.feed(row[0], row[1], row[2], row[3], row[4]);
            CHECK.due("a byte 255 at " + place, x.text(1), -1);
            CHECK.due("its place", x.fault(1), place);
        }
        CHECK.says("P10: Twenty bytes come behind the TAPE: how many it has");
        x = Town.of(2, 0);
        for (int i = 1; i <= 20; i++) CHECK.due("feed " + i, x.feed(0x20202020, 0x20202020, 0x20202020, 0x20202020, 0x2020203b), 20 * i);
        CHECK.due("NONE beyond 400", x.feed(0, 0, 0, 0, 0), -1);
        CHECK.due("all 400 are there", x.end(400), true);
        CHECK.due("the first sign", x.text(1), -1);
        CHECK.due("is behind the blanks", x.fault(1), 19);
        CHECK.due("empty then", x.feed(0, 0, 0, 0, 0), 20);

        CHECK.says("P10: NONE, and nothing comes, if there would be more than 400");
        for (int length : new int[] {381, 390, 399, 400}) {
            x = Town.of(2, 0);
            for (int i = 0; i < 20; i++) x.feed(0x20202020, 0x20202020, 0x20202020, 0x20202020, 0x20202020);
            x.end(length);
            CHECK.due("feed at " + length, x.feed(-1, -1, -1, -1, -1), -1);
            CHECK.due("no more than " + length, x.end(length + 1), false);
            CHECK.due("no fewer than " + length, x.end(length), true);
            CHECK.due("blanks alone", x.text(1), 0);
        }
        x = Town.of(2, 0);
        for (int i = 0; i < 20; i++) x.feed(0x20202020, 0x20202020, 0x20202020, 0x20202020, 0x20202020);
        x.end(380);
        CHECK.due("feed at 380", x.feed(0, 0, 0, 0, 0), 400);
        x.text(1);
        CHECK.due("behind what was there", x.fault(1), 380);
    }

    private static void ends() {
        CHECK.says("P11: false, changing nothing, if it has not so many, or n is below 0");
        VeiledLandaus x = Town.of(2, 0);
        CHECK.due("end(0) of none", x.end(0), true);
        CHECK.due("end(1) of none", x.end(1), false);
        x.feed(0x61736b20, 0x3132203b, 0x0a61736b, 0x2035203b, 0x20202020);
        String before = Sight.of(x);
        CHECK.due("end(21)", x.end(21), false);
        CHECK.due("end(-1)", x.end(-1), false);
        CHECK.due("end(400)", x.end(400), false);
        CHECK.due("end(401)", x.end(401), false);
        for (int n : Town.FAR) CHECK.due("end(" + n + ")", x.end(n), false);
        CHECK.same("nothing", Sight.of(x), before);
        CHECK.due("the TAPE has all", x.end(20), true);
        CHECK.due("and both lines", x.text(1), 2);

        CHECK.says("P11: The TAPE has its first n bytes alone");
        x.feed(0x61736b20, 0x3132203b, 0x0a61736b, 0x2035203b, 0x20202020);
        CHECK.due("end(8)", x.end(8), true);
        CHECK.due("end(9)", x.end(9), false);
        CHECK.due("one line", x.text(1), 1);
        x.feed(0x61736b20, 0x3132203b, 0x0a61736b, 0x2035203b, 0x20202020);
        x.end(7);
        x.feed(0x3b202020, 0x20202020, 0x20202020, 0x20202020, 0x20202020);
        CHECK.due("what comes then is behind the first 7", x.text(1), 1);
        x.feed(-1, -1, -1, -1, -1);
        CHECK.due("end(0)", x.end(0), true);
        CHECK.due("empty", x.text(1), 0);
    }

    /** However much was told before, the latest text is there whole. */
    private static void toldAgain() {
        CHECK.says("P12: The TAPE is TEXT k: again and again");
        VeiledLandaus x = Town.sure(3, 1, "", 1);
        String ones = "+1".repeat(180);
        for (int i = 0; i < 5; i++) {
            CHECK.sound(x, 0, "joy 5*" + i + "/5" + ones + "-1*180;yes 1;", 2);
            CHECK.due("the latest LAW: joy", x.who(0, 10), i);
            CHECK.due("the latest LAW: yes", x.yes(0, 0, 0, 0), 1);
            CHECK.faulty(x, 0, "joy 9" + ones + "?", 1, 5 + ones.length());
            CHECK.due("the LAW before a FAULT: joy", x.who(0, 10), i);
            CHECK.sound(x, 1, "ask 9;".repeat(16 - i), 16 - i);
            CHECK.sound(x, 2, "in 9 cough 1;".repeat(i), i);
            CHECK.sound(x, 3, "woman 0 sister 1;".repeat(16 - i), 16 - i);
            CHECK.due("lines of each", 1000 * x.look(8) + 100 * x.look(9) + 10 * x.look(10) + x.look(11),
                2000 + 100 * (16 - i) + 10 * i + 16 - i);
            x.image(true);
            x.image(false);
            CHECK.due("the latest LAW in THE IMAGE: joy", x.who(0, 10), i);
        }
    }

    private static void texts() {
        CHECK.says("P12: NONE: no such one (fault() tells 0); the TAPE is empty in each case");
        VeiledLandaus x = Town.of(3, 1);
        for (int k = 0; k < 4; k++) Check.tell(x, k, SOUND[k] + SOUND[k]);
        String before = Sight.of(x);
        for (int k : new int[] {-1, 4, 5, Integer.MIN_VALUE, Integer.MAX_VALUE, 32, 256}) {
            CHECK.faulty(x, k, "ask 1;", 0, -1);
            CHECK.due("the TAPE", x.end(1), false);
        }
        CHECK.same("each TEXT stays", Sight.of(x), before);
        Check.tell(x, 1, "ask");
        CHECK.due("no such one: fault(0)", x.text(4) + 10 * x.fault(0), -1);
        CHECK.due("no such one: fault(1)", x.fault(1), -1);

        CHECK.says("P12: NONE: a FAULT (the TEXT stays as it was; the TAPE is empty in each case)");
        x = Town.of(3, 1);
        for (int k = 0; k < 4; k++) Check.tell(x, k, SOUND[k] + SOUND[k]);
        String texts = lines(x) + x.who(0, 10) + x.yes(0, 0, 1, 0) + x.of(0, 4);
        for (int k = 0; k < 4; k++) {
            String other = SOUND[k].replace('1', '2');
            CHECK.faulty(x, k, other + other + other + "?", 1, 3 * other.length());
            CHECK.due("the TAPE", x.end(1), false);
            CHECK.same("the TEXT", lines(x) + x.who(0, 10) + x.yes(0, 0, 1, 0) + x.of(0, 4), texts);
        }
        x.years(1);
        CHECK.due("YEARS stay", x.look(4), 2);

        CHECK.says("P12: The TAPE, empty then, is TEXT k: how many lines (none)");
        for (int k = 0; k < 4; k++) {
            CHECK.due("text(" + k + ") of nothing", x.text(k), 0);
            CHECK.due("look", x.look(8 + k), 0);
            CHECK.sound(x, k, SOUND[k], 1);
            CHECK.due("the TAPE", x.end(1), false);
            CHECK.due("look", x.look(8 + k), 1);
            CHECK.sound(x, k, " \n \n", 0);
            CHECK.due("look", x.look(8 + k), 0);
        }
        CHECK.due("none again: joy", x.who(0, 10), -3);
        CHECK.due("none again: yes", x.yes(0, 0, 0, 0), -1);
        CHECK.due("none again: SISTERS", x.of(0, 4), 0);
    }

    private static String lines(VeiledLandaus x) {
        return x.look(8) + " " + x.look(9) + " " + x.look(10) + " " + x.look(11) + " ";
    }

    private static void faults() {
        CHECK.says("P13: what 0 the FAULT (0 without one), 1 its place (NONE). NONE for another what");
        VeiledLandaus x = Town.of(3, 1);
        CHECK.due("fault(0) without a text", x.fault(0), 0);
        CHECK.due("fault(1) without a text", x.fault(1), -1);
        CHECK.faulty(x, 1, "ask 7; ask 100;", 2, 11);
        for (int what : new int[] {-1, 2, 3}) CHECK.due("fault(" + what + ")", x.fault(what), -1);
        for (int what : Town.FAR) CHECK.due("fault(" + what + ")", x.fault(what), -1);
        x.feed(0, 0, 0, 0, 0);
        x.years(1);
        x.image(true);
        CHECK.due("of the latest text() still", x.fault(0), 2);
        CHECK.due("its place", x.fault(1), 11);
        CHECK.sound(x, 1, "ask 7;", 1);
        CHECK.faulty(x, 1, "ask", 1, 3);
        CHECK.sound(x, 3, "", 0);
    }

    private static VeiledLandaus town() {
        return Town.of(3, 2);
    }

    /** How a text stands: lines, or below 0 the FAULT and its place. */
    private static void stands(int k, String text, int lines, int fault, int place) {
        VeiledLandaus x = town();
        if (fault == 0) {
            CHECK.sound(x, k, text, lines);
        } else {
            CHECK.faulty(x, k, text, fault, place);
        }
    }

    private static boolean isLetter(int c) {
        return c >= 'a' && c <= 'z' || c >= 'A' && c <= 'Z';
    }

    private static boolean isDigit(int c) {
        return c >= '0' && c <= '9';
    }

    private static void signs() {
        CHECK.says("TOKENS: letters .., digits .., ; + - * / ( ) < = > . Blanks (32, 10) between");
        for (int c = 0; c < 256; c++) {
            char s = (char) c;
            boolean blank = c == 32 || c == 10;
            stands(1, "ask 1;" + s, 1, blank ? 0 : 1, 6);
            stands(1, s + "ask 1;", 1, blank ? 0 : 1, 0);
            stands(1, "ask" + s + "1;", 1, blank || isDigit(c) ? 0 : 1, isLetter(c) ? 0 : 3);
            stands(1, "ask 1" + s + ";", 1, blank || isDigit(c) ? 0 : 1, c == ';' ? 6 : 5);
            boolean sum = s == '+' || s == '-' || s == '*' || s == '/';
            stands(0, "joy 1" + s + "1;", 1, sum || isDigit(c) ? 0 : 1, blank || s == ';' ? 6 : 5);
            boolean compares = s == '<' || s == '=' || s == '>';
            stands(0, "joy 1 when 1" + s + "1;", 1, compares ? 0 : 1, sum || isDigit(c) ? 14 : blank ? 13 : 12);
        }
        stands(0, "joy 1 when(1=1);", 1, 0, 0);
        stands(0, "\njoy\n1\nwhen\n(\n1\n=\n1\n)\n;\n", 1, 0, 0);

        CHECK.says("letters as many as stand together");
        stands(1, "as k 1;", 0, 1, 0);
        stands(1, "askask 1;", 0, 1, 0);
        stands(1, "ASK 1;", 0, 1, 0);
        stands(0, "joy 1when 1=1and 1=1;", 1, 0, 0);
        stands(0, "joy 1 when not1=1;", 1, 0, 0);
        stands(0, "joy 1 when notnot 1=1;", 0, 1, 11);
        stands(0, "joy stepheart;", 0, 1, 4);
        stands(0, "joy ste;", 0, 1, 4);
        stands(1, "a".repeat(400), 0, 1, 0);
    }

    private static void numbers() {
        CHECK.says("digits as many as stand together NUMBERS of 1 to 4 digits or none");
        for (String n : new String[] {"7", "07", "007", "0007"}) stands(1, "ask " + n + ";", 1, 0, 0);
        stands(1, "ask 00007;", 0, 1, 4);
        stands(1, "ask 10000;", 0, 1, 4);
        stands(1, "ask 7 7;", 0, 1, 6);
        stands(0, "joy 9999;", 1, 0, 0);
        stands(0, "joy 10000;", 0, 1, 4);
        stands(0, "joy 1/9999;", 1, 0, 0);
        stands(0, "joy 1/00001;", 0, 1, 6);
        stands(2, "in 00000 cough 0;", 0, 1, 3);
        stands(2, "in 0 cough 00000;", 0, 1, 11);
        stands(3, "woman 00000 sister 1;", 0, 1, 6);
        stands(1, "1".repeat(400), 0, 1, 0);
        VeiledLandaus x = town();
        Check.tell(x, 0, "yes 0999;");
        Check.tell(x, 1, "ask 0042; ask 09;");
        CHECK.due("0999", x.yes(0, 0, 0, 0), 999);
        Check.tell(x, 0, "yes question;");
        CHECK.due("0042", x.yes(0, 0, 0, 0), 42);
        CHECK.due("09", x.yes(0, 0, 1, 0), 9);
    }

    private static void words() {
        CHECK.says("KEYWORDS (those told here for that text) or none");
        String[][] begin = {{"yes", "counts", "joy"}, {"ask"}, {"in"}, {"woman"}};
        String[] behind = {" 1;", " 1;", " 0 cough 1;", " 0 sister 1;"};
        for (String word : WORDS) {
            for (int k = 0; k < 4; k++) {
                boolean may = java.util.Arrays.asList(begin[k]).contains(word);
                stands(k, word + behind[k], 1, may ? 0 : 1, 0);
                stands(k, SOUND[k] + word + behind[k], 2, may ? 0 : 1, SOUND[k].length());
            }
            int number = java.util.Arrays.asList(WORDS).indexOf(word);
            boolean isName = number >= 7 && number <= 17;
            stands(0, "joy " + word + ";", 1, isName ? 0 : 1, 4);
            stands(0, "joy 1*" + word + ";", 1, isName ? 0 : 1, 6);
            stands(0, "joy 1/" + word + ";", 0, 1, 6);
            stands(0, "joy 1 " + word + " 1=1;", 1, word.equals("when") ? 0 : 1, 6);
            boolean joins = word.equals("and") || word.equals("or");
            stands(0, "joy 1 when 1=1 " + word + " 1=1;", 1, joins ? 0 : 1, 15);
            stands(0, "joy 1 when " + word + " 1=1;", 1, word.equals("not") ? 0 : 1, isName ? 12 + word.length() : 11);
            stands(1, "ask " + word + ";", 0, 1, 4);
            boolean does = word.equals("cough") || word.equals("part");
            stands(2, "in 0 " + word + " 0;", 1, does ? 0 : 1, word.equals("wed") ? 10 : 5);
            stands(3, "woman 0 " + word + " 1;", 1, word.equals("sister") ? 0 : 1, 8);
        }
    }

    private static void wholeLines() {
        CHECK.says("1 what can't stand there (the end: the text's length)");
        String[] whole = {"joy 1 + 2 * step / 3 when not ( 1 < 2 or 2 = 2 ) and 3 > 1 ;", "ask 1 ;", "in 0 wed 0 0 1 2 ;",
            "woman 0 sister 1 ;"};
        for (int k = 0; k < 4; k++) {
            String line = whole[k];
            for (int cut = line.indexOf(' '); cut > 0; cut = line.indexOf(' ', cut + 1)) {
                String part = line.substring(0, cut);
                stands(k, part, 0, 1, cut);
                stands(k, part + " \n ", 0, 1, cut + 3);
                stands(k, SOUND[k] + part, 0, 1, SOUND[k].length() + cut);
                int left = 400 - cut;
                stands(k, " ".repeat(left) + part, 0, 1, 400);
                stands(k, part + " ".repeat(left), 0, 1, 400);
                // a ; may end it at some places alone: behind a whole E or B
                boolean ends = k == 0 && java.util.List.of(5, 9, 16, 20).contains(cut) || whole[k].length() - cut == 2
                        || k == 0 && cut == 48;
                stands(k, part + ";", 1, ends ? 0 : 1, cut);
                boolean shuts = k == 0 && (cut == 37 || cut == 46);
                stands(k, part + " )", 0, 1, cut + (shuts ? 2 : 1));
            }
        }
        stands(2, "in 0 cough 1", 0, 1, 12);
        stands(2, "in 0 part 1", 0, 1, 11);
        stands(2, "in 0 wed 0 0 1;", 0, 1, 14);
        stands(2, "in 0 wed 0 0 1 2 2;", 0, 1, 17);
        stands(2, "in 0 cough 0 1;", 0, 1, 13);
        stands(0, "joy 1 when;", 0, 1, 10);
        stands(0, "joy 1 when ();", 0, 1, 12);
        stands(0, "joy 1 when (1=1;", 0, 1, 15);
        stands(0, "joy 1 when 1=1);", 0, 1, 14);
        stands(0, "joy 1 when 1=1=1;", 0, 1, 14);
        stands(0, "joy 1 when (1)=1;", 0, 1, 13);
        stands(0, "joy 1 when 1=(1);", 0, 1, 13);
        stands(0, "joy 1 when 1;", 0, 1, 12);
        stands(0, "joy 1 when 1=1 when 1=1;", 0, 1, 15);
        stands(0, "joy (1);", 0, 1, 4);
        stands(0, "joy 1/2/;", 0, 1, 8);
        stands(0, "joy -1;", 0, 1, 4);
        stands(0, "joy 1--1;", 0, 1, 6);
        stands(0, ";", 0, 1, 0);
        stands(1, "ask 1;;", 0, 1, 6);
    }

    private static void bounds() {
        CHECK.says("1 QUESTIONS = {ask N ;} (N 0 .. 99.): 2 (at the NUMBER) one beyond its bounds");
        stands(1, "ask 0;", 1, 0, 0);
        stands(1, "ask 99;", 1, 0, 0);
        stands(1, "ask 100;", 0, 2, 4);
        stands(1, "ask 0100;", 0, 2, 4);
        stands(1, "ask 9999;", 0, 2, 4);
        stands(1, "ask 1; ask   100", 0, 2, 13);

        CHECK.says("2 YEARS (YEAR 0 .. 999.): 2 (at the NUMBER) one beyond its bounds");
        stands(2, "in 0 cough 0;", 1, 0, 0);
        stands(2, "in 999 cough 0;", 1, 0, 0);
        stands(2, "in 1000 cough 0;", 0, 2, 3);
        stands(2, "in 9999 wed", 0, 2, 3);

        CHECK.says("a WOMAN, a GROOM that there is not");
        stands(2, "in 0 cough 2;", 1, 0, 0);
        stands(2, "in 0 cough 3;", 0, 2, 11);
        stands(2, "in 0 part 1;", 1, 0, 0);
        stands(2, "in 0 part 2;", 0, 2, 10);
        stands(2, "in 0 wed 1 2 1 0;", 1, 0, 0);
        stands(2, "in 0 wed 2 2 1 0;", 0, 2, 9);
        stands(2, "in 0 wed 1 3 1 0;", 0, 2, 11);
        stands(2, "in 0 wed 1 2 3 0;", 0, 2, 13);
        stands(2, "in 0 wed 1 2 1 3;", 0, 2, 15);
        stands(2, "in 0 wed 1 9999 9999 9999;", 0, 2, 11);
        stands(3, "woman 2 sister 0;", 1, 0, 0);
        stands(3, "woman 3 sister 0;", 0, 2, 6);
        stands(3, "woman 0 sister 3;", 0, 2, 15);
        VeiledLandaus none = new VeiledLandaus();
        CHECK.faulty(none, 2, "in 0 cough 0;", 2, 11);
        CHECK.faulty(none, 2, "in 0 part 0;", 2, 10);
        CHECK.faulty(none, 2, "in 0 wed 0 0 0 0;", 2, 9);
        CHECK.faulty(none, 3, "woman 0 sister 0;", 2, 6);
        CHECK.faulty(Town.of(3, 0), 2, "in 0 wed 0 0 1 2;", 2, 9);
        VeiledLandaus full = Town.of(12, 8);
        CHECK.sound(full, 2, "in 0 cough 11; in 0 part 7; in 0 wed 7 11 10 9;", 3);
        CHECK.faulty(full, 2, "in 0 cough 12;", 2, 11);
        CHECK.faulty(full, 2, "in 0 part 8;", 2, 10);
        CHECK.sound(full, 3, "woman 11 sister 10;", 1);
        CHECK.faulty(full, 3, "woman 12 sister 10;", 2, 6);

        CHECK.says("the same WOMAN again (in a wedding; of SISTERS)");
        stands(2, "in 0 wed 0 1 1 2;", 0, 2, 13);
        stands(2, "in 0 wed 0 1 2 1;", 0, 2, 15);
        stands(2, "in 0 wed 0 2 1 1;", 0, 2, 15);
        stands(2, "in 0 wed 0 1 0001 2;", 0, 2, 13);
        stands(2, "in 0 wed 1 1 0 2;", 1, 0, 0);
        stands(2, "in 0 wed 0 0 1 2; in 0 wed 0 0 1 2;", 2, 0, 0);
        stands(3, "woman 1 sister 1;", 0, 2, 15);
        stands(3, "woman 1 sister 01;", 0, 2, 15);
        stands(3, "woman 0 sister 1; woman 0 sister 1; woman 1 sister 0;", 3, 0, 0);

        CHECK.says("3 SISTERS (either way; unlike.)");
        VeiledLandaus x = Town.of(12, 0);
        CHECK.sound(x, 3, "woman 11 sister 0; woman 3 sister 0;", 2);
        CHECK.due("of 0", x.of(0, 4), 2048 + 8);
        CHECK.due("of 11", x.of(11, 4), 1);
        CHECK.due("of 3", x.of(3, 4), 1);
    }

    private static void lines() {
        CHECK.says("16 lines of each at most; 3 (at its KEYWORD) the 17th line of a text");
        for (int k = 0; k < 4; k++) {
            String line = SOUND[k];
            int place = 16 * line.length();
            stands(k, line.repeat(15), 15, 0, 0);
            stands(k, line.repeat(16), 16, 0, 0);
            stands(k, line.repeat(16) + " \n", 16, 0, 0);
            stands(k, line.repeat(17), 0, 3, place);
            stands(k, line.repeat(16) + "  " + line.substring(0, line.indexOf(' ')), 0, 3, place + 2);
            stands(k, line.repeat(16) + line.replace('1', '?'), 0, 3, place);
            stands(k, line.repeat(16) + "?", 0, 1, place);
            stands(k, line.repeat(16) + "7", 0, 1, place);
            stands(k, line.repeat(16) + SOUND[(k + 1) % 4], 0, 1, place);
            stands(k, line.repeat(15) + line.replace(';', '?') + line, 0, 1, place - 1);
        }
        for (String word : new String[] {"yes", "counts", "joy"}) {
            stands(0, "yes 1;counts 1;joy 1;counts 1;".repeat(4) + word + " 1;", 0, 3, 120);
        }
        stands(0, "joy 1;".repeat(16) + "when 1;", 0, 1, 96);
        VeiledLandaus x = Town.of(3, 1);
        Check.tell(x, 0, "joy 1;".repeat(16));
        CHECK.faulty(x, 0, "joy 2;".repeat(17), 3, 96);
        CHECK.due("THE LAW stays", x.who(0, 10), 1);
        CHECK.due("its lines", x.look(8), 16);
        StringBuilder law = new StringBuilder();
        for (int i = 0; i < 16; i++) law.append("joy ").append(i).append(" when step=").append(i % 10).append(";");
        CHECK.sound(x, 0, law.toString(), 16);
        CHECK.due("of several the first", x.who(0, 12), 2);
        CHECK.sound(x, 0, "joy 1 when 1=2;".repeat(15) + "joy 17;", 16);
        CHECK.due("the last line", x.who(0, 10), 17);
    }

    private static void deep(String open, String shut, int fault, int place) {
        stands(0, "joy 1 when " + open + "1=1" + shut + ";", 1, fault, place);
    }

    private static void openOnes() {
        CHECK.says("3 (at it) the 9th ( or not that is open");
        deep("(".repeat(8), ")".repeat(8), 0, 0);
        deep("(".repeat(9), ")".repeat(9), 3, 19);
        deep("not ".repeat(8), "", 0, 0);
        deep("not ".repeat(9), "", 3, 43);
        deep("not (".repeat(4), ")".repeat(4), 0, 0);
        deep("not (".repeat(4) + "not ", ")".repeat(4), 3, 31);
        deep("not (".repeat(4) + "(", ")".repeat(5), 3, 31);
        deep("(not ".repeat(4), ")".repeat(4), 0, 0);
        deep("(not ".repeat(4) + "(", ")".repeat(5), 3, 31);
        deep("not not not (((((", ")))))", 0, 0);
        deep("not not not ((((((", "))))))", 3, 28);
        deep("((((((( not not ", ")))))))", 3, 23);
        deep("(".repeat(300), "", 3, 19);
        deep("not ".repeat(90), "", 3, 43);

        CHECK.says("that is open: shut ones are not");
        deep("(".repeat(8) + "1=1" + ")".repeat(8) + " and " + "(".repeat(8), ")".repeat(8), 0, 0);
        deep("(".repeat(8) + "1=1" + ")".repeat(8) + " or " + "not ".repeat(8), "", 0, 0);
        deep("not 1=1 and ".repeat(20), "", 0, 0);
        deep("not 1=1 or ".repeat(20), "", 0, 0);
        deep("(1=1) and ".repeat(20), "", 0, 0);
        deep("not not not not not not not not 1=1 and not not not not not not not not ", "", 0, 0);
        deep("(((((((not 1=1 and not 1=1 or (", "))))))))", 0, 0);
        deep("((((((((1=1) and (", "))))))))", 0, 0);
        deep("((((((((1=1) and ((", ")))))))))", 3, 29);
        deep("(((((((not 1=1 and not (", "))))))))", 3, 34);
        deep("(not 1=1 and not 1=1 and (((((((", "))))))))", 0, 0);
        deep("(((((((not 1=1)))))) and not ((((((", ")))))))", 0, 0);
        deep("(((((((not 1=1)))))) and not (((((((", "))))))))", 3, 46);
        stands(0, "joy 1 when ((((((((1=1)))))))); joy 1 when ((((((((1=1))))))));", 2, 0, 0);
        stands(0, "joy 1 when ((((((((1=1)))))))); joy 1 when (((((((((1=1)))))))));", 0, 3, 51);

        CHECK.says("at one place the least: a ( where none can stand");
        deep("((((((((1=(", "))))))))", 1, 21);
        deep("((((((((1 (", "))))))))", 1, 21);
        deep("((((((((1=1 not ", "))))))))", 1, 23);
    }

    private static void partsByNought() {
        CHECK.says("2 (at the NUMBER) a part by 0");
        stands(0, "joy 1/0;", 0, 2, 6);
        stands(0, "joy 1/ 0;", 0, 2, 7);
        stands(0, "joy 1/00;", 0, 2, 6);
        stands(0, "joy 1/000;", 0, 2, 6);
        stands(0, "joy 1/0000;", 0, 2, 6);
        stands(0, "joy 1/00000;", 0, 1, 6);
        stands(0, "joy 0/1;", 1, 0, 0);
        stands(0, "joy 1/1/0;", 0, 2, 8);
        stands(0, "joy 1*0/0;", 0, 2, 8);
        stands(0, "joy 1/01;", 1, 0, 0);
        stands(0, "joy 1 when 1/0=1;", 0, 2, 13);
        stands(0, "joy 1 when 1=1/0;", 0, 2, 15);
        stands(0, "joy 1/0", 0, 2, 6);
    }

    private static void firstByPlace() {
        CHECK.says("FAULTS, the first by its place");
        stands(1, "ask 100; foo", 0, 2, 4);
        stands(1, "foo; ask 100;", 0, 1, 0);
        stands(1, "ask 1 ask 100;", 0, 1, 6);
        stands(0, "joy 1/0 (", 0, 2, 6);
        stands(0, "joy ( 1/0", 0, 1, 4);
        stands(0, "joy 1 when (((((((((1/0=1;", 0, 3, 19);
        stands(0, "joy 1 when ((((((((1/0=(;", 0, 2, 21);
        stands(2, "in 1000 foo 99;", 0, 2, 3);
        stands(2, "in 0 foo 99;", 0, 1, 5);
        stands(2, "in 0 wed 9 9 9 9;", 0, 2, 9);
        stands(2, "in 0 wed 0 1 1 1;", 0, 2, 13);
        stands(3, "woman 9 sister 9", 0, 2, 6);
        stands(3, "woman 0 sister 0", 0, 2, 15);

        CHECK.says("FAULTS, at one place the least: a NUMBER of five digits is none");
        stands(1, "ask 99999;", 0, 1, 4);
        stands(2, "in 99999 cough 0;", 0, 1, 3);
        stands(3, "woman 0 sister 99999;", 0, 1, 15);
        stands(2, "in 0 wed 0 1 00001 2;", 0, 1, 13);
    }
}
