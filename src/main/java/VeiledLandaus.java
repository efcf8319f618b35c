import java.util.Arrays;

/** Bridegrooms, veiled women in three landaus, and what a town tells and thinks of them. */
public final class VeiledLandaus {
    public static final int NONE = -1;

    private static final int WOMEN_MOST = 12;
    private static final int GROOMS_MOST = 8;
    private static final int LANDAUS = 3;
    private static final int TAPE_MOST = 400;
    private static final int LINES_MOST = 16;
    private static final int UNDO_MOST = 6;
    private static final int YEARS_MOST = 60;
    private static final int YEAR_LAST = 9999;
    private static final int CHILDREN_MOST = 20;
    private static final int GLAD_MOST = 99;

    /** What some questions answer where there is nothing to tell. */
    private static final int NOTHING_SUCH = NONE - 9999;

    private final Church church;
    private final Reader reader;
    private final Past past;
    private final Rite rite;
    private final Standing thought;
    private final PlumeRows plumeRows;
    private final Streets streets;
    /** Null until it is taken. */
    private Church kept;

    public VeiledLandaus() {
        church = new Church();
        reader = new Reader();
        past = new Past();
        rite = new Rite(church);
        thought = new Standing();
        plumeRows = new PlumeRows();
        streets = new Streets();
        kept = null;
    }

    public int state(int v) {
        int before = church.standing.draws;
        church.standing.draws = v;
        past.forget();
        return before;
    }

    public int woman(int step, int heart, int rote) {
        if (!isDigit(step) || !isDigit(heart) || !isDigit(rote)) {
            return NONE;
        }
        int number = church.addWoman(step, heart, rote);
        if (number != NONE) {
            past.forget();
        }
        return number;
    }

    public int groom(int nerve, int pledged) {
        if (!isDigit(nerve) || !church.isWoman(pledged)) {
            return NONE;
        }
        int number = church.addGroom(nerve, pledged);
        if (number != NONE) {
            past.forget();
        }
        return number;
    }

    public boolean set(int what, int who, int v) {
        if (!church.change(what, who, v)) {
            return false;
        }
        past.forget();
        return true;
    }

    public int wed(int groom, int a, int b, int c) {
        if (!church.isGroom(groom) || !church.areThree(a, b, c)
                || !rite.canWed(church.standing, groom, a, b, c)) {
            return NONE;
        }
        past.keep(church);
        return rite.wedding(church.standing, groom, a, b, c, false);
    }

    public boolean part(int groom) {
        if (!church.isGroom(groom) || church.standing.wife[groom] == NONE) {
            return false;
        }
        past.keep(church);
        rite.parting(church.standing, groom, false);
        return true;
    }

    public boolean cough(int woman, boolean is) {
        if (!church.isWoman(woman) || church.standing.isToCough(woman) == is) {
            return false;
        }
        past.keep(church);
        church.standing.coughs ^= 1 << woman;
        return true;
    }

    public int years(int n) {
        if (n < 1 || n > YEARS_MOST || church.standing.year + n > YEAR_LAST) {
            return NONE;
        }
        int born = 0;
        for (int i = 0; i < n; i++) {
            past.keep(church);
            born += rite.passYear(church.standing, false);
        }
        return born;
    }

    public int feed(int a, int b, int c, int d, int e) {
        if (!reader.hasRoom(20)) {
            return NONE;
        }
        reader.take(a);
        reader.take(b);
        reader.take(c);
        reader.take(d);
        reader.take(e);
        return reader.length;
    }

    public boolean end(int n) {
        if (n < 0 || n > reader.length) {
            return false;
        }
        reader.length = n;
        return true;
    }

    public int text(int k) {
        int lines = reader.read(k, church.women, church.grooms);
        if (lines == NONE) {
            return NONE;
        }
        if (k == Reader.LAW) {
            church.law.copyFrom(reader.law);
        } else if (k == Reader.QUESTIONS) {
            church.questions.copyFrom(reader.draft);
            past.forget();
        } else if (k == Reader.YEARS) {
            church.calendar.copyFrom(reader.draft);
            past.forget();
        } else {
            church.sisters.copyFrom(reader.draft);
        }
        return lines;
    }

    public int fault(int what) {
        switch (what) {
            case 0: return reader.faultKind;
            case 1: return reader.faultPlace;
            default: return NONE;
        }
    }

    public int of(int woman, int what) {
        if (!church.isWoman(woman)) {
            return NONE - 1;
        }
        switch (what) {
            case 0: return church.stepOf[woman];
            case 1: return church.heartOf[woman];
            case 2: return church.roteOf[woman];
            case 3: return church.standing.wedTo[woman];
            case 4: return church.sistersOf(1 << woman);
            case 5: return church.standing.isToCough(woman) ? 1 : 0;
            default: return NONE - 1;
        }
    }

    public int who(int groom, int what) {
        if (!church.isGroom(groom)) {
            return NONE - 99;
        }
        switch (what) {
            case 0: return church.nerveOf[groom];
            case 1: return church.pledgedTo[groom];
            case 2: return church.standing.wife[groom];
            case 3: return church.standing.glad[groom];
            case 4: return church.standing.children[groom];
            case 5: return church.standing.weds[groom];
            default: break;
        }
        if (what < 10 || !church.isWoman(what - 10)) {
            return NONE - 99;
        }
        rite.meet(church.standing, groom, what - 10);
        return rite.joyTold();
    }

    public int yes(int groom, int woman, int q, int landau) {
        if (!canAnswer(groom, woman, q, landau)) {
            return NONE;
        }
        rite.meet(church.standing, groom, woman);
        return rite.yesTold(church.questions.at(q, 0), landau);
    }

    public int counts(int groom, int woman, int q, int landau, boolean said) {
        if (!canAnswer(groom, woman, q, landau)) {
            return NONE - 99;
        }
        rite.meet(church.standing, groom, woman);
        return rite.countsTold(church.questions.at(q, 0), landau, said);
    }

    public int book(int i, int what) {
        if (i < 0 || i >= church.record.count || what < 0 || what > 3) {
            return NOTHING_SUCH;
        }
        return church.record.at(i, what);
    }

    public int would(int groom, int a, int b, int c, int what) {
        if (!church.isGroom(groom) || !church.areThree(a, b, c) || what < 0 || what > 1) {
            return NOTHING_SUCH;
        }
        return rite.wouldTake(groom, a, b, c, what == 1);
    }

    public int goes(int n, int what) {
        if (n < 1 || n > YEARS_MOST || what < 0 || what > 3) {
            return NOTHING_SUCH;
        }
        thought.copyFrom(church.standing);
        for (int i = 0; i < n; i++) {
            rite.passYear(thought, true);
        }
        switch (what) {
            case 0: return thought.town;
            case 1: return sumOf(thought.children);
            case 2: return sumOf(thought.glad);
            default: return thought.wivesOf();
        }
    }

    public int tells(int groom, int a, int b, int c, int what) {
        if (!church.isGroom(groom) || !church.areThree(a, b, c) || what < 0 || what > 1) {
            return NONE;
        }
        return rite.tellsMost(groom, a, b, c, what == 1);
    }

    public int sent(int groom, int what) {
        if (!church.isGroom(groom) || what < 0 || what > 1) {
            return NOTHING_SUCH;
        }
        return rite.bestBeside(groom, what == 1);
    }

    public int man(int a, int b, boolean lies) {
        if (a == NONE) {
            return church.men.clear();
        }
        if (!isBelow(a, 6) || !isBelow(b, 6)) {
            return NONE;
        }
        return church.men.add(a, b, lies ? 1 : 0, 0);
    }

    public int liars(int what) {
        return Riddles.whoLies(church.men, what);
    }

    public int guess(int row, int right, int elsewhere) {
        if (row == NONE) {
            plumeRows.forget();
            return church.guesses.clear();
        }
        int number = PlumeRows.numberOf(row);
        if (number == NONE || !isBelow(right, 4) || !isBelow(elsewhere, 4) || right + elsewhere > 3) {
            return NONE;
        }
        plumeRows.forget();
        return church.guesses.add(number, right, elsewhere, 0);
    }

    public int plumes(int what) {
        plumeRows.study(church.guesses);
        switch (what) {
            case 0: return plumeRows.fitting;
            case 1: return plumeRows.least();
            case 2: return plumeRows.best();
            default: return NONE;
        }
    }

    public int bet(int landau, int v) {
        if (landau == NONE) {
            return church.odds.clear();
        }
        if (!isBelow(landau, LANDAUS) || v < 101 || v > 9999) {
            return NONE;
        }
        return church.odds.add(landau, v, 0, 0);
    }

    public int safe(int n, int what) {
        if (n < 3 || n > 300) {
            return NONE;
        }
        return Riddles.safeStakes(church.odds, n, what);
    }

    public int street(int a, int b) {
        if (a == NONE) {
            return church.roads.clear();
        }
        if (!isBelow(a, Streets.CORNERS) || !isBelow(b, Streets.CORNERS) || a == b) {
            return NONE;
        }
        return church.roads.add(a, b, 0, 0);
    }

    public int ways(int a, int b, int what) {
        if (!isBelow(a, Streets.CORNERS) || !isBelow(b, Streets.CORNERS) || a == b) {
            return NONE;
        }
        streets.lay(church.roads);
        switch (what) {
            case 0: return streets.apart(a, b);
            case 1: return streets.shortest(a, b);
            default: return NONE;
        }
    }

    public int kin(int a, int b) {
        if (!church.isWoman(a) || !church.isWoman(b)) {
            return NONE;
        }
        int seen = 1 << a;
        for (int steps = 0; steps < WOMEN_MOST; steps++) {
            if (has(seen, b)) {
                return steps;
            }
            seen |= church.sistersOf(seen);
        }
        return NONE;
    }

    public int groups(int what) {
        int left = church.allWomen();
        int found = 0;
        int greatest = 0;
        for (int woman = 0; woman < WOMEN_MOST; woman++) {
            if (has(left, woman)) {
                int group = church.groupOf(woman);
                left &= ~group;
                found++;
                if (Integer.bitCount(group) > Integer.bitCount(greatest)) {
                    greatest = group;
                }
            }
        }
        switch (what) {
            case 0: return found;
            case 1: return greatest;
            default: return NONE;
        }
    }

    public int step(int v) {
        if (v == NONE) {
            return church.steps.clear();
        }
        if (!isBelow(v, 100)) {
            return NONE;
        }
        return church.steps.add(v, 0, 0, 0);
    }

    public int alike(int d, int what) {
        if (!isBelow(d, 100)) {
            return NONE;
        }
        switch (what) {
            case 0: return Riddles.mostAlike(church.steps, d);
            case 1: return Riddles.couplesAlike(church.steps, d);
            default: return NONE;
        }
    }

    public boolean carriage(int i, int minutes, int from) {
        if (!isBelow(i, LANDAUS) || minutes < 1 || minutes > 30 || from < 0 || from > 30) {
            return false;
        }
        church.carriages[2 * i] = minutes;
        church.carriages[2 * i + 1] = from;
        return true;
    }

    public int down(int what) {
        switch (what) {
            case 0: return Riddles.orderDown(church.carriages, false);
            case 1: return Riddles.orderDown(church.carriages, true);
            default: return NONE;
        }
    }

    public int offer(int v) {
        if (v == NONE) {
            return church.offers.clear();
        }
        if (!isBelow(v, 100)) {
            return NONE;
        }
        return church.offers.add(v, 0, 0, 0);
    }

    public int stop(int what) {
        if (church.offers.count == 0 || what < 0 || what > 1) {
            return NONE;
        }
        return Riddles.bestSilence(church.offers, what == 1);
    }

    public int game(int what) {
        if (what < 0 || what > 1) {
            return NONE;
        }
        return Riddles.goodTaking(church.standing.children, what == 1);
    }

    public boolean undo() {
        return past.goBack(church);
    }

    public boolean image(boolean taken) {
        if (taken) {
            if (kept == null) {
                kept = new Church();
            }
            kept.copyFrom(church);
            return true;
        }
        if (kept == null) {
            return false;
        }
        church.copyFrom(kept);
        past.forget();
        plumeRows.forget();
        return true;
    }

    public int look(int what) {
        switch (what) {
            case 0: return church.women;
            case 1: return church.grooms;
            case 2: return church.standing.year;
            case 3: return church.standing.town;
            case 4: return church.standing.coughs;
            case 5: return church.freeWomen();
            case 6: return church.record.count;
            case 7: return church.standing.draws;
            case 8: return church.law.lines;
            case 9: return church.questions.count;
            case 10: return church.calendar.count;
            case 11: return church.sisters.count;
            case 12: return past.count;
            default: return NOTHING_SUCH;
        }
    }

    private boolean canAnswer(int groom, int woman, int q, int landau) {
        return church.isGroom(groom) && church.isWoman(woman)
                && isBelow(q, church.questions.count) && isBelow(landau, LANDAUS);
    }

    private static boolean isDigit(int v) {
        return v >= 0 && v <= 9;
    }

    private static boolean isBelow(int v, int bound) {
        return v >= 0 && v < bound;
    }

    private static boolean has(int members, int who) {
        return (members >> who & 1) != 0;
    }

    private static int held(int v, int least, int most) {
        return Math.max(least, Math.min(most, v));
    }

    private static int sumOf(int[] row) {
        int sum = 0;
        for (int v : row) {
            sum += v;
        }
        return sum;
    }

    /** Lines of numbers, so many in a line, up to a most. */
    private static final class Lines {
        private final int most;
        private final int width;
        private final int[] items;
        int count;

        Lines(int most, int width) {
            this.most = Math.max(0, most);
            this.width = Math.max(0, width);
            items = new int[this.most * this.width];
            count = 0;
        }

        int at(int line, int column) {
            if (!isBelow(line, count) || !isBelow(column, width)) {
                return 0;
            }
            return items[line * width + column];
        }

        int clear() {
            count = 0;
            return 0;
        }

        /** A new line of noughts; false if there is no room. */
        boolean begin() {
            if (count < 0 || count >= most) {
                return false;
            }
            for (int column = 0; column < width; column++) {
                items[count * width + column] = 0;
            }
            count++;
            return true;
        }

        /** Puts a number into the newest line. */
        void put(int column, int v) {
            if (count > 0 && isBelow(column, width)) {
                items[(count - 1) * width + column] = v;
            }
        }

        /** How many lines there are then, NONE if it finds no room; a narrow line leaves the last ones out. */
        int add(int a, int b, int c, int d) {
            if (!begin()) {
                return NONE;
            }
            put(0, a);
            put(1, b);
            put(2, c);
            put(3, d);
            return count;
        }

        void cutTo(int lines) {
            count = held(lines, 0, count);
        }

        void copyFrom(Lines other) {
            clear();
            for (int line = 0; line < other.count && begin(); line++) {
                for (int column = 0; column < width; column++) {
                    put(column, other.at(line, column));
                }
            }
        }
    }

    /** What years, weddings, partings and coughs change: what an undo brings back, and a thought leaves alone. */
    private static final class Standing {
        final int[] wedTo = new int[WOMEN_MOST];
        final int[] wife = new int[GROOMS_MOST];
        final int[] glad = new int[GROOMS_MOST];
        final int[] children = new int[GROOMS_MOST];
        final int[] weds = new int[GROOMS_MOST];
        int year;
        int town;
        int coughs;
        int draws;

        Standing() {
            Arrays.fill(wedTo, NONE);
            Arrays.fill(wife, NONE);
        }

        void copyFrom(Standing other) {
            System.arraycopy(other.wedTo, 0, wedTo, 0, WOMEN_MOST);
            System.arraycopy(other.wife, 0, wife, 0, GROOMS_MOST);
            System.arraycopy(other.glad, 0, glad, 0, GROOMS_MOST);
            System.arraycopy(other.children, 0, children, 0, GROOMS_MOST);
            System.arraycopy(other.weds, 0, weds, 0, GROOMS_MOST);
            year = other.year;
            town = other.town;
            coughs = other.coughs;
            draws = other.draws;
        }

        boolean isToCough(int woman) {
            return has(coughs, woman);
        }

        /** A DRAW of 1000. */
        int drawOfThousand() {
            draws = 1664525 * draws + 1013904223;
            return (draws >>> 8) % 1000;
        }

        int wivesOf() {
            int wives = 0;
            for (int w : wife) {
                if (w != NONE) {
                    wives++;
                }
            }
            return wives;
        }
    }

    /** THE LAW, its lines reckoned beforehand: the tokens of each stand in the order in which they work. */
    private static final class Law {
        private static final int STACK_MOST = 40;

        private final int[] code = new int[TAPE_MOST];
        private final int[] wordOf = new int[LINES_MOST];
        private final int[] start = new int[LINES_MOST];
        private final int[] middle = new int[LINES_MOST];
        private final int[] finish = new int[LINES_MOST];
        private final int[] stack = new int[STACK_MOST];
        int lines;
        int size;

        void clear() {
            lines = 0;
            size = 0;
        }

        void put(int token) {
            if (size < TAPE_MOST) {
                code[size] = token;
                size++;
            }
        }

        /** The tokens from a start are a line; from the middle on they are its condition (none: the line's end). */
        void closeLine(int word, int from, int condition) {
            if (lines < LINES_MOST) {
                wordOf[lines] = word;
                start[lines] = from;
                middle[lines] = condition;
                finish[lines] = size;
                lines++;
            }
        }

        void copyFrom(Law other) {
            System.arraycopy(other.code, 0, code, 0, TAPE_MOST);
            System.arraycopy(other.wordOf, 0, wordOf, 0, LINES_MOST);
            System.arraycopy(other.start, 0, start, 0, LINES_MOST);
            System.arraycopy(other.middle, 0, middle, 0, LINES_MOST);
            System.arraycopy(other.finish, 0, finish, 0, LINES_MOST);
            lines = other.lines;
            size = other.size;
        }

        int reckon(int word, int[] values, int otherwise) {
            for (int i = 0; i < lines && i < LINES_MOST; i++) {
                if (wordOf[i] == word
                        && (middle[i] == finish[i] || run(middle[i], finish[i], values) != 0)) {
                    return run(start[i], middle[i], values);
                }
            }
            return otherwise;
        }

        private int run(int from, int to, int[] values) {
            int top = 0;
            for (int i = Math.max(0, from); i < to && i < TAPE_MOST; i++) {
                int token = code[i];
                if (Token.isNumber(token) || Token.isName(token)) {
                    if (top < STACK_MOST) {
                        int name = token - Token.NAMES;
                        stack[top] = name >= 0 && name < values.length ? values[name] : token;
                        top++;
                    }
                } else if (token == Token.NOT) {
                    if (top > 0 && top <= STACK_MOST) {
                        stack[top - 1] = 1 - stack[top - 1];
                    }
                } else if (top > 1 && top <= STACK_MOST) {
                    top--;
                    stack[top - 1] = joined(token, stack[top - 1], stack[top]);
                }
            }
            return top > 0 ? stack[0] : 0;
        }

        private static int joined(int token, int a, int b) {
            switch (token) {
                case Token.PLUS: return a + b;
                case Token.MINUS: return a - b;
                case Token.TIMES: return a * b;
                case Token.BY: return b == 0 ? 0 : a / b;
                case Token.LESS: return a < b ? 1 : 0;
                case Token.SAME: return a == b ? 1 : 0;
                case Token.MORE: return a > b ? 1 : 0;
                case Token.AND: return a & b;
                default: return a | b;
            }
        }
    }

    /** Tokens as numbers: a NUMBER is itself, a KEYWORD and a sign stand above all NUMBERS. */
    private static final class Token {
        /** Each with a blank behind it, in the order of the numbers below. */
        static final String KEYWORDS = "yes counts joy when or and not step heart rote she said question place nerve year children glad ask in wed cough part woman sister ";
        static final int WORDS = 10000;
        static final int YES = WORDS;
        static final int COUNTS = WORDS + 1;
        static final int JOY = WORDS + 2;
        static final int WHEN = WORDS + 3;
        static final int OR = WORDS + 4;
        static final int AND = WORDS + 5;
        static final int NOT = WORDS + 6;
        static final int NAMES = WORDS + 7;
        static final int NAMES_HOW_MANY = 11;
        static final int ASK = WORDS + 18;
        static final int IN = WORDS + 19;
        static final int WED = WORDS + 20;
        static final int COUGH = WORDS + 21;
        static final int PART = WORDS + 22;
        static final int WOMAN = WORDS + 23;
        static final int SISTER = WORDS + 24;
        static final int SIGNS = 20000;
        static final int PLUS = SIGNS + '+';
        static final int MINUS = SIGNS + '-';
        static final int TIMES = SIGNS + '*';
        static final int BY = SIGNS + '/';
        static final int LESS = SIGNS + '<';
        static final int SAME = SIGNS + '=';
        static final int MORE = SIGNS + '>';
        static final int OPEN = SIGNS + '(';
        static final int SHUT = SIGNS + ')';
        static final int LINE_END = SIGNS + ';';
        static final int END = 30000;
        /** What is no token of any text. */
        static final int UNKNOWN = 30001;

        /** The places of the names among the values of a law. */
        static final int STEP = 0;
        static final int HEART = 1;
        static final int ROTE = 2;
        static final int SHE = 3;
        static final int SAID = 4;
        static final int QUESTION = 5;
        static final int PLACE = 6;
        static final int NERVE = 7;
        static final int YEAR = 8;
        static final int CHILDREN = 9;
        static final int GLAD = 10;

        static boolean isNumber(int token) {
            return token < WORDS;
        }

        static boolean isName(int token) {
            return token >= NAMES && token < NAMES + NAMES_HOW_MANY;
        }

        static boolean compares(int token) {
            return token == LESS || token == SAME || token == MORE;
        }

        static int ofSign(int c) {
            switch (c) {
                case ';':
                case '+':
                case '-':
                case '*':
                case '/':
                case '(':
                case ')':
                case '<':
                case '=':
                case '>':
                    return SIGNS + c;
                default:
                    return UNKNOWN;
            }
        }
    }

    /** The TAPE, and how it is read as a text: first into tokens, then line by line into a draft. */
    private static final class Reader {
        static final int LAW = 0;
        static final int QUESTIONS = 1;
        static final int YEARS = 2;
        static final int SISTERS = 3;

        private static final int OPEN_MOST = 8;
        private static final int CANT_STAND = 1;
        private static final int WRONG_NUMBER = 2;
        private static final int TOO_MANY = 3;

        private final int[] tape = new int[TAPE_MOST];
        private final int[] tokens = new int[TAPE_MOST + 1];
        private final int[] places = new int[TAPE_MOST + 1];
        final Law law = new Law();
        final Lines draft = new Lines(LINES_MOST, 6);
        int length;
        int faultKind;
        int faultPlace;
        private int tokenCount;
        private int at;
        private int token;
        private int women;
        private int grooms;

        Reader() {
            faultPlace = NONE;
        }

        boolean hasRoom(int bytes) {
            return length + bytes <= TAPE_MOST;
        }

        /** The four bytes of a number, the highest first. */
        void take(int number) {
            for (int shift = 24; shift >= 0 && length < TAPE_MOST; shift -= 8) {
                tape[length] = number >> shift & 255;
                length++;
            }
        }

        /** How many lines the TAPE has as such a text; NONE with a FAULT, or if there is none such. */
        int read(int kind, int womenThere, int groomsThere) {
            faultKind = 0;
            faultPlace = NONE;
            women = womenThere;
            grooms = groomsThere;
            splitTape();
            law.clear();
            draft.clear();
            if (kind < LAW || kind > SISTERS) {
                return NONE;
            }
            at = 0;
            token = tokens[0];
            for (int i = 0; i <= TAPE_MOST && faultKind == 0 && token != Token.END; i++) {
                switch (kind) {
                    case LAW: lawLine(); break;
                    case QUESTIONS: questionLine(); break;
                    case YEARS: yearLine(); break;
                    default: sisterLine(); break;
                }
            }
            if (faultKind != 0) {
                return NONE;
            }
            return kind == LAW ? law.lines : draft.count;
        }

        /** Turns the TAPE, empty then, into tokens. */
        private void splitTape() {
            tokenCount = 0;
            int from = 0;
            for (int i = 0; i < TAPE_MOST && from < length; i++) {
                int c = tape[from];
                int to = from + 1;
                if (isLetter(c) || isNumeral(c)) {
                    to = runEnd(from);
                    addToken(isLetter(c) ? keyword(from, to) : number(from, to), from);
                } else if (c != ' ' && c != '\n') {
                    addToken(Token.ofSign(c), from);
                }
                from = to;
            }
            addToken(Token.END, length);
            length = 0;
        }

        private void addToken(int what, int place) {
            if (tokenCount <= TAPE_MOST) {
                tokens[tokenCount] = what;
                places[tokenCount] = place;
                tokenCount++;
            }
        }

        private static boolean isLetter(int c) {
            return c >= 'a' && c <= 'z' || c >= 'A' && c <= 'Z';
        }

        private static boolean isNumeral(int c) {
            return c >= '0' && c <= '9';
        }

        private int runEnd(int from) {
            boolean letters = isLetter(tape[from]);
            int to = from + 1;
            while (to < length && to < TAPE_MOST && (letters ? isLetter(tape[to]) : isNumeral(tape[to]))) {
                to++;
            }
            return to;
        }

        private int number(int from, int to) {
            if (to - from > 4) {
                return Token.UNKNOWN;
            }
            int v = 0;
            for (int i = from; i < to && i < TAPE_MOST; i++) {
                v = v * 10 + tape[i] - '0';
            }
            return v;
        }

        private int keyword(int from, int to) {
            int which = 0;
            int start = 0;
            for (int i = 0; i < Token.KEYWORDS.length(); i++) {
                if (Token.KEYWORDS.charAt(i) == ' ') {
                    if (i - start == to - from && isSpelled(start, from, to)) {
                        return Token.WORDS + which;
                    }
                    which++;
                    start = i + 1;
                }
            }
            return Token.UNKNOWN;
        }

        private boolean isSpelled(int start, int from, int to) {
            for (int i = from; i < to && i < TAPE_MOST; i++) {
                int k = start + i - from;
                if (!isBelow(k, Token.KEYWORDS.length()) || Token.KEYWORDS.charAt(k) != tape[i]) {
                    return false;
                }
            }
            return true;
        }

        private void advance() {
            if (at + 1 < tokenCount && at < TAPE_MOST) {
                at++;
                token = tokens[at];
            }
        }

        /** The parts are read from left to right, so the first fault found is the first by its place. */
        private void fail(int what) {
            if (faultKind == 0) {
                faultKind = what;
                faultPlace = at >= 0 && at <= TAPE_MOST ? places[at] : NONE;
            }
        }

        private boolean expect(int wanted) {
            if (faultKind == 0 && token != wanted) {
                fail(CANT_STAND);
            }
            if (faultKind != 0) {
                return false;
            }
            advance();
            return true;
        }

        /** A KEYWORD that begins a line, if there may be one more. */
        private boolean beginLine(int wanted, int linesSoFar) {
            if (token == wanted && linesSoFar >= LINES_MOST) {
                fail(TOO_MANY);
            }
            return expect(wanted);
        }

        private int numberBelow(int bound) {
            return numberUnlike(bound, NONE, NONE);
        }

        private int numberUnlike(int bound, int a, int b) {
            int v = token;
            if (faultKind == 0 && !Token.isNumber(v)) {
                fail(CANT_STAND);
            }
            if (faultKind == 0 && (v >= bound || v == a || v == b)) {
                fail(WRONG_NUMBER);
            }
            if (faultKind != 0) {
                return 0;
            }
            advance();
            return v;
        }

        private void questionLine() {
            if (beginLine(Token.ASK, draft.count)) {
                draft.add(numberBelow(100), 0, 0, 0);
                expect(Token.LINE_END);
            }
        }

        private void sisterLine() {
            if (beginLine(Token.WOMAN, draft.count)) {
                int a = numberBelow(women);
                expect(Token.SISTER);
                int b = numberUnlike(women, a, NONE);
                draft.add(a, b, 0, 0);
                expect(Token.LINE_END);
            }
        }

        private void yearLine() {
            if (!beginLine(Token.IN, draft.count)) {
                return;
            }
            int year = numberBelow(1000);
            int what = token;
            if (faultKind == 0 && what != Token.WED && what != Token.COUGH && what != Token.PART) {
                fail(CANT_STAND);
            }
            expect(what);
            int who = numberBelow(what == Token.COUGH ? women : grooms);
            draft.add(year, what, who, 0);
            if (what == Token.WED) {
                int a = numberBelow(women);
                int b = numberUnlike(women, a, NONE);
                draft.put(3, a);
                draft.put(4, b);
                draft.put(5, numberUnlike(women, a, b));
            }
            expect(Token.LINE_END);
        }

        private void lawLine() {
            int word = token;
            if (word != Token.YES && word != Token.COUNTS && word != Token.JOY) {
                fail(CANT_STAND);
            }
            if (!beginLine(word, law.lines)) {
                return;
            }
            int from = law.size;
            expression();
            int middle = law.size;
            if (faultKind == 0 && token == Token.WHEN) {
                advance();
                condition(0);
            }
            if (expect(Token.LINE_END)) {
                law.closeLine(word, from, middle);
            }
        }

        /** E: a + or - waits until the product behind it is whole. */
        private void expression() {
            int waiting = Token.END;
            boolean times = false;
            for (int i = 0; i <= TAPE_MOST && unit(); i++) {
                if (times) {
                    law.put(Token.TIMES);
                }
                partings();
                times = token == Token.TIMES;
                if (!times) {
                    if (waiting != Token.END) {
                        law.put(waiting);
                    }
                    waiting = token;
                    if (token != Token.PLUS && token != Token.MINUS) {
                        return;
                    }
                }
                advance();
            }
        }

        private boolean unit() {
            if (faultKind == 0 && !Token.isNumber(token) && !Token.isName(token)) {
                fail(CANT_STAND);
            }
            if (faultKind != 0) {
                return false;
            }
            law.put(token);
            advance();
            return true;
        }

        /** {/ NUMBER} */
        private void partings() {
            for (int i = 0; i <= TAPE_MOST && faultKind == 0 && token == Token.BY; i++) {
                advance();
                if (!Token.isNumber(token)) {
                    fail(CANT_STAND);
                } else if (token == 0) {
                    fail(WRONG_NUMBER);
                } else {
                    law.put(token);
                    law.put(Token.BY);
                    advance();
                }
            }
        }

        /** B: an or waits until the row of ands behind it is whole. */
        private void condition(int open) {
            boolean and = false;
            boolean or = false;
            for (int i = 0; i <= TAPE_MOST && faultKind == 0; i++) {
                clause(open);
                if (and) {
                    law.put(Token.AND);
                }
                and = token == Token.AND;
                if (!and) {
                    if (or) {
                        law.put(Token.OR);
                    }
                    or = token == Token.OR;
                    if (!or) {
                        return;
                    }
                }
                advance();
            }
        }

        /** C: its nots are counted, and work when what they deny is whole. */
        private void clause(int open) {
            int nots = 0;
            for (int i = 0; i <= TAPE_MOST && faultKind == 0 && token == Token.NOT; i++) {
                opens(open + nots);
                nots++;
            }
            if (token == Token.OPEN && opens(open + nots)) {
                condition(open + nots + 1);
                expect(Token.SHUT);
            } else {
                expression();
                int sign = token;
                if (expect(Token.compares(sign) ? sign : Token.LESS)) {
                    expression();
                    law.put(sign);
                }
            }
            for (int i = 0; i < nots && i <= OPEN_MOST; i++) {
                law.put(Token.NOT);
            }
        }

        /** Goes behind a ( or a not, unless too many are open. */
        private boolean opens(int open) {
            if (open >= OPEN_MOST) {
                fail(TOO_MANY);
            }
            return expect(token);
        }
    }

    /** All that is and was told but the TAPE: what an image holds. */
    private static final class Church {
        final Standing standing = new Standing();
        final int[] stepOf = new int[WOMEN_MOST];
        final int[] heartOf = new int[WOMEN_MOST];
        final int[] roteOf = new int[WOMEN_MOST];
        final int[] nerveOf = new int[GROOMS_MOST];
        final int[] pledgedTo = new int[GROOMS_MOST];
        int women;
        int grooms;
        final Law law = new Law();
        final Lines questions = new Lines(LINES_MOST, 1);
        /** YEARS: the year, a KEYWORD, who, and for a wedding the three. */
        final Lines calendar = new Lines(LINES_MOST, 6);
        final Lines sisters = new Lines(LINES_MOST, 2);
        /** THE BOOK. */
        final Lines record = new Lines(150, 4);
        final Lines men = new Lines(10, 3);
        final Lines guesses = new Lines(8, 3);
        final Lines odds = new Lines(6, 2);
        final Lines roads = new Lines(16, 2);
        final Lines steps = new Lines(12, 1);
        final Lines offers = new Lines(7, 1);
        /** Of each its minutes, and when it can set off. */
        final int[] carriages = {1, 0, 1, 0, 1, 0};

        void copyFrom(Church other) {
            standing.copyFrom(other.standing);
            System.arraycopy(other.stepOf, 0, stepOf, 0, WOMEN_MOST);
            System.arraycopy(other.heartOf, 0, heartOf, 0, WOMEN_MOST);
            System.arraycopy(other.roteOf, 0, roteOf, 0, WOMEN_MOST);
            System.arraycopy(other.nerveOf, 0, nerveOf, 0, GROOMS_MOST);
            System.arraycopy(other.pledgedTo, 0, pledgedTo, 0, GROOMS_MOST);
            women = other.women;
            grooms = other.grooms;
            law.copyFrom(other.law);
            questions.copyFrom(other.questions);
            calendar.copyFrom(other.calendar);
            sisters.copyFrom(other.sisters);
            record.copyFrom(other.record);
            men.copyFrom(other.men);
            guesses.copyFrom(other.guesses);
            odds.copyFrom(other.odds);
            roads.copyFrom(other.roads);
            steps.copyFrom(other.steps);
            offers.copyFrom(other.offers);
            System.arraycopy(other.carriages, 0, carriages, 0, 2 * LANDAUS);
        }

        boolean isWoman(int who) {
            return isBelow(who, women) && who < WOMEN_MOST;
        }

        boolean isGroom(int who) {
            return isBelow(who, grooms) && who < GROOMS_MOST;
        }

        boolean areThree(int a, int b, int c) {
            return isWoman(a) && isWoman(b) && isWoman(c) && a != b && b != c && a != c;
        }

        int addWoman(int step, int heart, int rote) {
            if (women >= WOMEN_MOST) {
                return NONE;
            }
            stepOf[women] = step;
            heartOf[women] = heart;
            roteOf[women] = rote;
            women++;
            return women - 1;
        }

        int addGroom(int nerve, int pledged) {
            if (grooms >= GROOMS_MOST) {
                return NONE;
            }
            nerveOf[grooms] = nerve;
            pledgedTo[grooms] = pledged;
            grooms++;
            return grooms - 1;
        }

        boolean change(int what, int who, int v) {
            boolean fits;
            switch (what) {
                case 0:
                case 1:
                case 2: fits = isWoman(who) && isDigit(v); break;
                case 3: fits = isGroom(who) && isDigit(v); break;
                case 4: fits = isGroom(who) && isWoman(v); break;
                case 5: fits = isGroom(who) && v >= -GLAD_MOST && v <= GLAD_MOST; break;
                default: fits = false; break;
            }
            if (!fits) {
                return false;
            }
            switch (what) {
                case 0: stepOf[who] = v; break;
                case 1: heartOf[who] = v; break;
                case 2: roteOf[who] = v; break;
                case 3: nerveOf[who] = v; break;
                case 4: pledgedTo[who] = v; break;
                default: standing.glad[who] = v; break;
            }
            return true;
        }

        int allWomen() {
            return (1 << women) - 1;
        }

        int freeWomen() {
            int free = 0;
            for (int woman = 0; woman < women && woman < WOMEN_MOST; woman++) {
                if (standing.wedTo[woman] == NONE) {
                    free |= 1 << woman;
                }
            }
            return free;
        }

        /** All who are a sister of one of these. */
        int sistersOf(int members) {
            int found = 0;
            for (int i = 0; i < sisters.count; i++) {
                int a = sisters.at(i, 0);
                int b = sisters.at(i, 1);
                if (has(members, a)) {
                    found |= 1 << b;
                }
                if (has(members, b)) {
                    found |= 1 << a;
                }
            }
            return found;
        }

        int groupOf(int woman) {
            int group = 1 << woman;
            for (int i = 1; i < WOMEN_MOST; i++) {
                group |= sistersOf(group);
            }
            return group;
        }
    }

    /** The latest standings, each as it was before something was done. */
    private static final class Past {
        private final Standing[] kept = new Standing[UNDO_MOST];
        private final int[] recordLines = new int[UNDO_MOST];
        /** Where the next one comes: the rows are used round and round. */
        private int next;
        int count;

        Past() {
            for (int i = 0; i < UNDO_MOST; i++) {
                kept[i] = new Standing();
            }
        }

        void forget() {
            count = 0;
        }

        void keep(Church church) {
            Standing row = isBelow(next, UNDO_MOST) ? kept[next] : null;
            if (row == null) {
                return;
            }
            row.copyFrom(church.standing);
            recordLines[next] = church.record.count;
            next = (next + 1) % UNDO_MOST;
            count = Math.min(count + 1, UNDO_MOST);
        }

        boolean goBack(Church church) {
            if (count == 0) {
                return false;
            }
            next = (next + UNDO_MOST - 1) % UNDO_MOST;
            Standing row = isBelow(next, UNDO_MOST) ? kept[next] : null;
            if (row == null) {
                return false;
            }
            count--;
            church.standing.copyFrom(row);
            // A book grows at its end alone, so its length brings it back.
            church.record.cutTo(recordLines[next]);
            return true;
        }
    }

    /** What THE LAW tells, weddings and years: in earnest by draws, or in thought without. */
    private static final class Rite {
        private static final int SAID_YES = 0;
        private static final int SAID_NO = 1;
        private static final int COUGHED = 2;
        private static final int TAKEN = 3;
        private static final int CHILD = 4;
        private static final int PARTED = 5;
        private static final int LIKELY = 500;
        private static final int COUGH_POINTS = 10;

        private final Church church;
        private final int[] values = new int[Token.NAMES_HOW_MANY];
        private final int[] seated = new int[LANDAUS];
        private final int[] points = new int[LANDAUS];
        private final int[] firstPoints = new int[WOMEN_MOST];
        private final int[] thirdPoints = new int[WOMEN_MOST];

        Rite(Church church) {
            this.church = church;
        }

        /** Whom the next told yes, counts or joy is of. */
        void meet(Standing s, int groom, int woman) {
            if (!church.isGroom(groom) || !church.isWoman(woman)) {
                return;
            }
            values[Token.STEP] = church.stepOf[woman];
            values[Token.HEART] = church.heartOf[woman];
            values[Token.ROTE] = church.roteOf[woman];
            values[Token.SHE] = church.pledgedTo[groom] == woman ? 1 : 0;
            values[Token.NERVE] = church.nerveOf[groom];
            values[Token.YEAR] = s.year;
            values[Token.CHILDREN] = s.children[groom];
            values[Token.GLAD] = s.glad[groom];
        }

        private void hear(int question, int place, boolean said) {
            values[Token.QUESTION] = question;
            values[Token.PLACE] = place;
            values[Token.SAID] = said ? 1 : 0;
        }

        int yesTold(int question, int place) {
            hear(question, place, false);
            int otherwise = 500 + 40 * values[Token.HEART] - 30 * values[Token.ROTE] + 200 * values[Token.SHE];
            return held(church.law.reckon(Token.YES, values, otherwise), 0, 1000);
        }

        int countsTold(int question, int place, boolean said) {
            hear(question, place, said);
            return held(church.law.reckon(Token.COUNTS, values, 1), -99, 99);
        }

        int joyTold() {
            hear(0, 0, false);
            int otherwise = values[Token.HEART] - 4 + values[Token.SHE];
            return held(church.law.reckon(Token.JOY, values, otherwise), -20, 20);
        }

        boolean canWed(Standing s, int groom, int a, int b, int c) {
            return church.isGroom(groom) && church.areThree(a, b, c) && s.wife[groom] == NONE
                    && s.wedTo[a] == NONE && s.wedTo[b] == NONE && s.wedTo[c] == NONE;
        }

        private void seat(int a, int b, int c) {
            seated[0] = a;
            seated[1] = b;
            seated[2] = c;
        }

        private void write(Standing s, int what, int who, int howMuch, boolean inThought) {
            if (!inThought) {
                church.record.add(s.year, what, who, howMuch);
            }
        }

        /** Line q is asked in a landau: the points of what she says. */
        private int answer(Standing s, int groom, int q, int landau, boolean inThought) {
            int woman = seated[landau];
            int number = church.questions.at(q, 0);
            meet(s, groom, woman);
            int yes = yesTold(number, landau);
            boolean said = inThought ? yes >= LIKELY : s.drawOfThousand() < yes;
            write(s, said ? SAID_YES : SAID_NO, woman, number, inThought);
            return countsTold(number, landau, said);
        }

        /** A WEDDING that can be: whom he takes. */
        int wedding(Standing s, int groom, int a, int b, int c, boolean inThought) {
            seat(a, b, c);
            Arrays.fill(points, 0);
            for (int q = 0; q < church.questions.count; q++) {
                for (int landau = 0; landau < LANDAUS; landau++) {
                    points[landau] += answer(s, groom, q, landau, inThought);
                }
            }
            for (int landau = 0; landau < LANDAUS; landau++) {
                int woman = seated[landau];
                if (s.isToCough(woman)) {
                    points[landau] += COUGH_POINTS;
                    s.coughs &= ~(1 << woman);
                    write(s, COUGHED, woman, landau, inThought);
                }
            }
            int landau = landauWithMost();
            int bride = seated[landau];
            write(s, TAKEN, bride, points[landau], inThought);
            s.wife[groom] = bride;
            s.wedTo[bride] = groom;
            s.weds[groom]++;
            s.town += church.pledgedTo[groom] == bride ? -3 : 1;
            return bride;
        }

        private int landauWithMost() {
            int most = points[1] > points[0] ? 1 : 0;
            return points[2] > points[most] ? 2 : most;
        }

        /** To PART, if it can be. */
        void parting(Standing s, int groom, boolean inThought) {
            int wife = church.isGroom(groom) ? s.wife[groom] : NONE;
            if (!church.isWoman(wife)) {
                return;
            }
            write(s, PARTED, groom, s.glad[groom], inThought);
            s.wedTo[wife] = NONE;
            s.wife[groom] = NONE;
            s.glad[groom] = 0;
        }

        /** A YEAR: how many children came. */
        int passYear(Standing s, boolean inThought) {
            Lines calendar = church.calendar;
            for (int i = 0; i < calendar.count; i++) {
                if (calendar.at(i, 0) != s.year) {
                    continue;
                }
                int what = calendar.at(i, 1);
                int who = calendar.at(i, 2);
                int a = calendar.at(i, 3);
                int b = calendar.at(i, 4);
                int c = calendar.at(i, 5);
                if (what == Token.COUGH) {
                    s.coughs |= 1 << who;
                } else if (what == Token.PART) {
                    parting(s, who, inThought);
                } else if (canWed(s, who, a, b, c)) {
                    wedding(s, who, a, b, c, inThought);
                }
            }
            int born = 0;
            for (int groom = 0; groom < church.grooms && groom < GROOMS_MOST; groom++) {
                if (s.wife[groom] != NONE && liveYear(s, groom, inThought)) {
                    born++;
                }
            }
            s.year++;
            return born;
        }

        /** A YEAR of a GROOM with a WIFE: whether a child came. */
        private boolean liveYear(Standing s, int groom, boolean inThought) {
            meet(s, groom, s.wife[groom]);
            s.glad[groom] = held(s.glad[groom] + joyTold(), -GLAD_MOST, GLAD_MOST);
            if (s.children[groom] >= CHILDREN_MOST) {
                return false;
            }
            int likely = held(100 + 5 * s.glad[groom], 0, 1000);
            boolean comes = inThought ? likely >= LIKELY : s.drawOfThousand() < likely;
            if (comes) {
                s.children[groom]++;
                write(s, CHILD, groom, s.children[groom], inThought);
            }
            return comes;
        }

        /** The points of a woman in a landau in thought. */
        private int thoughtPoints(int groom, int woman, int landau) {
            Standing s = church.standing;
            seated[landau] = woman;
            int sum = s.isToCough(woman) ? COUGH_POINTS : 0;
            for (int q = 0; q < church.questions.count; q++) {
                sum += answer(s, groom, q, landau, true);
            }
            return sum;
        }

        int wouldTake(int groom, int a, int b, int c, boolean howMany) {
            points[0] = thoughtPoints(groom, a, 0);
            points[1] = thoughtPoints(groom, b, 1);
            points[2] = thoughtPoints(groom, c, 2);
            int landau = landauWithMost();
            return howMany ? points[landau] : seated[landau];
        }

        int tellsMost(int groom, int a, int b, int c, boolean howFar) {
            seat(a, b, c);
            int she = church.pledgedTo[groom];
            int landau = she == a ? 0 : she == b ? 1 : 2;
            if (seated[landau] != she) {
                return NONE;
            }
            int line = NONE;
            int far = NONE;
            for (int q = 0; q < church.questions.count; q++) {
                int nearest = nearestTo(landau, groom, q);
                if (nearest > far) {
                    far = nearest;
                    line = q;
                }
            }
            return howFar ? far : line;
        }

        /** How far the yes in a landau is from the nearest one of the others. */
        private int nearestTo(int landau, int groom, int q) {
            int number = church.questions.at(q, 0);
            for (int i = 0; i < LANDAUS; i++) {
                meet(church.standing, groom, seated[i]);
                points[i] = yesTold(number, i);
            }
            int nearest = 1000;
            for (int i = 0; i < LANDAUS; i++) {
                if (i != landau) {
                    nearest = Math.min(nearest, Math.abs(points[i] - points[landau]));
                }
            }
            return nearest;
        }

        int bestBeside(int groom, boolean howMany) {
            int she = church.pledgedTo[groom];
            int free = church.freeWomen() & ~(1 << she);
            if (Integer.bitCount(free) < 2) {
                return NOTHING_SUCH;
            }
            int hers = thoughtPoints(groom, she, 1);
            for (int woman = 0; woman < WOMEN_MOST; woman++) {
                if (has(free, woman)) {
                    firstPoints[woman] = thoughtPoints(groom, woman, 0);
                    thirdPoints[woman] = thoughtPoints(groom, woman, 2);
                }
            }
            int best = 0;
            int most = 0;
            // The greater of both goes on slowest, so the sets come from the least on.
            for (int b = 1; b < WOMEN_MOST; b++) {
                for (int a = 0; a < b; a++) {
                    int more = hers - Math.max(firstPoints[a], thirdPoints[b]);
                    if (has(free, a) && has(free, b) && (best == 0 || more > most)) {
                        best = 1 << a | 1 << b;
                        most = more;
                    }
                }
            }
            return howMany ? most : best;
        }
    }

    /** The 216 rows of plumes, and those among them that fit the guesses. */
    private static final class PlumeRows {
        private static final int ROWS = 216;
        private static final int UNKNOWN = -2;

        /** A bit for the plume at each place. */
        private final int[] placed = new int[ROWS];
        /** For each plume so many bits as it is often there: what two rows share is counted by their common bits. */
        private final int[] tallied = new int[ROWS];
        private final int[] fits = new int[ROWS];
        private final int[] classes = new int[16];
        int fitting;
        private int next;

        PlumeRows() {
            for (int row = 0; row < ROWS; row++) {
                int a = row / 36;
                int b = row / 6 % 6;
                int c = row % 6;
                placed[row] = 1 << a | 1 << 6 + b | 1 << 12 + c;
                tallied[row] = oneMore(oneMore(oneMore(0, a), b), c);
            }
            fitting = UNKNOWN;
            next = UNKNOWN;
        }

        private static int oneMore(int tally, int plume) {
            int there = tally >> 3 * plume & 7;
            return tally | there + 1 << 3 * plume;
        }

        /** The place of a row of three digits among all rows; NONE if it is none. */
        static int numberOf(int row) {
            if (row < 0 || row > 555 || row / 10 % 10 > 5 || row % 10 > 5) {
                return NONE;
            }
            return row / 100 * 36 + row / 10 % 10 * 6 + row % 10;
        }

        private static int digitsOf(int number) {
            return number / 36 * 100 + number / 6 % 6 * 10 + number % 6;
        }

        void forget() {
            fitting = UNKNOWN;
            next = UNKNOWN;
        }

        /** What is told of two rows: four times how many are right, and how many are shared in all. */
        private int told(int a, int b) {
            return 4 * Integer.bitCount(placed[a] & placed[b]) + Integer.bitCount(tallied[a] & tallied[b]);
        }

        void study(Lines guesses) {
            if (fitting != UNKNOWN) {
                return;
            }
            fitting = 0;
            for (int row = 0; row < ROWS; row++) {
                if (canBe(row, guesses)) {
                    fits[fitting] = row;
                    fitting++;
                }
            }
        }

        private boolean canBe(int row, Lines guesses) {
            for (int i = 0; i < guesses.count; i++) {
                int guessed = guesses.at(i, 0);
                int right = guesses.at(i, 1);
                if (isBelow(guessed, ROWS) && told(guessed, row) != 5 * right + guesses.at(i, 2)) {
                    return false;
                }
            }
            return true;
        }

        int least() {
            return fitting > 0 ? digitsOf(fits[0]) : NONE;
        }

        int best() {
            if (fitting <= 0) {
                return NONE;
            }
            if (next == UNKNOWN) {
                int fewest = ROWS + 1;
                for (int row = 0; row < ROWS; row++) {
                    int greatest = greatestClass(row, fewest);
                    if (greatest < fewest) {
                        fewest = greatest;
                        next = row;
                    }
                }
            }
            return digitsOf(next);
        }

        /** How many can still be after a row at worst; no more is counted once it is not below a bound. */
        private int greatestClass(int row, int bound) {
            Arrays.fill(classes, 0);
            int greatest = 0;
            for (int i = 0; i < fitting && i < ROWS && greatest < bound; i++) {
                int what = told(row, fits[i]);
                classes[what]++;
                greatest = Math.max(greatest, classes[what]);
            }
            return greatest;
        }
    }

    /** Streets of one way among the corners, as a set of corners behind each. */
    private static final class Streets {
        static final int CORNERS = 10;

        private final int[] behind = new int[CORNERS];

        void lay(Lines roads) {
            Arrays.fill(behind, 0);
            for (int i = 0; i < roads.count; i++) {
                int from = roads.at(i, 0);
                if (isBelow(from, CORNERS)) {
                    behind[from] |= 1 << roads.at(i, 1);
                }
            }
        }

        private int reached(int corners) {
            int found = corners;
            for (int corner = 0; corner < CORNERS; corner++) {
                if (has(corners, corner)) {
                    found |= behind[corner];
                }
            }
            return found;
        }

        int shortest(int a, int b) {
            int seen = 1 << a;
            for (int n = 1; n < CORNERS; n++) {
                seen = reached(seen);
                if (has(seen, b)) {
                    return n;
                }
            }
            return NONE;
        }

        /**
         * As many ways can keep apart as corners must be shut to part a from b (Menger); the street
         * from a to b itself, which no corner shuts, is one more.
         */
        int apart(int a, int b) {
            int direct = behind[a] >> b & 1;
            behind[a] &= ~(1 << b);
            int fewest = CORNERS;
            for (int shut = 0; shut < 1 << CORNERS; shut++) {
                if (!has(shut, a) && !has(shut, b) && Integer.bitCount(shut) < fewest && parts(a, b, shut)) {
                    fewest = Integer.bitCount(shut);
                }
            }
            return fewest + direct;
        }

        /** Each corner that is reached is left once. */
        private boolean parts(int a, int b, int shut) {
            int seen = 1 << a;
            int waiting = seen;
            for (int n = 0; n < CORNERS && waiting != 0; n++) {
                // as many as there are bits below the lowest one
                int corner = Integer.bitCount(waiting - 1 & ~waiting);
                int more = isBelow(corner, CORNERS) ? behind[corner] & ~shut & ~seen : 0;
                seen |= more;
                waiting = waiting & waiting - 1 | more;
            }
            return !has(seen, b);
        }
    }

    /** Thoughts that need no more than what they are told. */
    private static final class Riddles {
        private static final int[] ORDERS = {12, 21, 102, 120, 201, 210};
        private static final int[] FACTORIALS = {1, 1, 2, 6, 24, 120, 720, 5040};
        private static final int OFFERS_MOST = 7;

        static int whoLies(Lines men, int what) {
            int ways = 0;
            int fewest = 6;
            int always = 63;
            int ever = 0;
            for (int lying = 0; lying < 64; lying++) {
                if (canAllBeSaid(men, lying)) {
                    ways++;
                    fewest = Math.min(fewest, Integer.bitCount(lying));
                    always &= lying;
                    ever |= lying;
                }
            }
            if (what == 0) {
                return ways;
            }
            if (ways == 0 || what != 1 && !isBelow(what - 10, 6)) {
                return NONE;
            }
            if (what == 1) {
                return fewest;
            }
            if (has(always, what - 10)) {
                return 1;
            }
            return has(ever, what - 10) ? NONE : 0;
        }

        private static boolean canAllBeSaid(Lines men, int lying) {
            for (int i = 0; i < men.count; i++) {
                boolean isTrue = has(lying, men.at(i, 1)) == (men.at(i, 2) == 1);
                if (isTrue == has(lying, men.at(i, 0))) {
                    return false;
                }
            }
            return true;
        }

        static int safeStakes(Lines odds, int n, int what) {
            int first = bestOdds(odds, 0);
            int second = bestOdds(odds, 1);
            int third = bestOdds(odds, 2);
            int back = 0;
            if (first > 0 && second > 0 && third > 0) {
                int beyond = n * 100 + 1;
                for (int i = 0; i < 20 && beyond - back > 1; i++) {
                    int middle = (back + beyond) / 2;
                    if (stakeFor(middle, first) + stakeFor(middle, second) + stakeFor(middle, third) <= n) {
                        back = middle;
                    } else {
                        beyond = middle;
                    }
                }
            }
            switch (what) {
                case 0: return back;
                case 10: return stakeFor(back, first);
                case 11: return stakeFor(back, second);
                case 12: return n - stakeFor(back, first) - stakeFor(back, second);
                default: return NONE;
            }
        }

        private static int bestOdds(Lines odds, int landau) {
            int best = 0;
            for (int i = 0; i < odds.count; i++) {
                if (odds.at(i, 0) == landau) {
                    best = Math.max(best, odds.at(i, 1));
                }
            }
            return best;
        }

        /** The least stake for which so much comes back. */
        private static int stakeFor(int back, int odds) {
            return odds > 0 ? (back * 100 + odds - 1) / odds : 0;
        }

        /** Those alike lie between the least of them and d above it. */
        static int mostAlike(Lines steps, int d) {
            int most = 0;
            for (int i = 0; i < steps.count; i++) {
                int alike = 0;
                for (int j = 0; j < steps.count; j++) {
                    if (isBelow(steps.at(j, 0) - steps.at(i, 0), d + 1)) {
                        alike++;
                    }
                }
                most = Math.max(most, alike);
            }
            return most;
        }

        static int couplesAlike(Lines steps, int d) {
            int couples = 0;
            for (int i = 0; i < steps.count; i++) {
                for (int j = 0; j < i; j++) {
                    if (Math.abs(steps.at(i, 0) - steps.at(j, 0)) <= d) {
                        couples++;
                    }
                }
            }
            return couples;
        }

        static int orderDown(int[] carriages, boolean whichMinute) {
            int best = NONE;
            int first = NONE;
            for (int order : ORDERS) {
                int done = 0;
                for (int by = 100; by > 0; by /= 10) {
                    int i = order / by % 10 * 2;
                    if (i >= 0 && i + 1 < carriages.length) {
                        done = Math.max(done, carriages[i + 1]) + carriages[i];
                    }
                }
                if (best == NONE || done < first) {
                    best = order;
                    first = done;
                }
            }
            return whichMinute ? first : best;
        }

        /** The k for which most orders take a greatest offer, each k tried in the same way. */
        static int bestSilence(Lines offers, boolean inHowMany) {
            int best = NONE;
            int most = NONE;
            for (int k = 0; k < offers.count && k < OFFERS_MOST; k++) {
                int orders = 0;
                for (int heard = 0; heard < 1 << offers.count; heard++) {
                    if (Integer.bitCount(heard) == k) {
                        orders += FACTORIALS[k] * ordersBehind(offers, heard, k);
                    }
                }
                if (orders > most) {
                    most = orders;
                    best = k;
                }
            }
            return inHowMany ? most : best;
        }

        /**
         * In how many orders of the others a greatest offer is taken behind these k: each of those above
         * them comes first of their kind equally often; is there none, the last of all is taken.
         */
        private static int ordersBehind(Lines offers, int heard, int k) {
            int greatest = NONE;
            int bar = NONE;
            for (int i = 0; i < offers.count; i++) {
                greatest = Math.max(greatest, offers.at(i, 0));
                if (has(heard, i)) {
                    bar = Math.max(bar, offers.at(i, 0));
                }
            }
            int above = 0;
            int good = 0;
            for (int i = 0; i < offers.count; i++) {
                if (!has(heard, i)) {
                    above += offers.at(i, 0) > bar ? 1 : 0;
                    good += offers.at(i, 0) == greatest ? 1 : 0;
                }
            }
            int left = offers.count - k;
            if (left < 1 || left > OFFERS_MOST) {
                return 0;
            }
            return above > 0 ? FACTORIALS[left] / above * good : FACTORIALS[left - 1] * good;
        }

        static int goodTaking(int[] children, boolean howMany) {
            for (int groom = 0; groom < children.length; groom++) {
                for (int n = 1; n <= 3 && n <= children[groom]; n++) {
                    if (isLostAfter(children, groom, n)) {
                        return howMany ? n : groom;
                    }
                }
            }
            return NONE;
        }

        /**
         * Whether who comes next loses. A taking by fours can always be made whole, so each heap counts as
         * its rest by 4, and these as heaps of Nim in which the last one loses.
         */
        private static boolean isLostAfter(int[] children, int groom, int taken) {
            int sum = 0;
            boolean great = false;
            for (int i = 0; i < children.length; i++) {
                int rest = children[i] - (i == groom ? taken : 0) & 3;
                sum ^= rest;
                great = great || rest > 1;
            }
            return great ? sum == 0 : sum == 1;
        }
    }
}
