import java.util.ArrayList;
import java.util.Arrays;
import java.util.List;
import java.util.function.IntSupplier;
import java.util.function.IntUnaryOperator;

/** Promises 29 to 39 (STREETS, KIN, ALIKE, DOWN, SILENCE, GAME): each sentence that names an edge, by itself. */
public final class RoadEdgeTest {
    private static final Check CHECK = new Check("RoadEdgeTest");

    public static void main(String[] args) {
        streets();
        refusedWays();
        ways();
        kin();
        groups();
        steps();
        alike();
        carriages();
        down();
        offers();
        stop();
        heaps();
        CHECK.close();
    }

    /** That numbers just beside and far out of 0 and 1 are no what. */
    private static void otherWhats(String call, IntUnaryOperator answer) {
        for (int v : new int[] {-1, 2, 3, 10}) CHECK.due(call + " of what " + v, answer.applyAsInt(v), -1);
        for (int v : Town.FAR) CHECK.due(call + " of what " + v, answer.applyAsInt(v), -1);
    }

    /** Tells until it is full, then once more, clears it and begins again. */
    private static void fill(String call, int most, IntSupplier tell, IntSupplier clear) {
        CHECK.due(call + ": none to clear", clear.getAsInt(), 0);
        for (int round = 0; round < 2; round++) {
            for (int i = 1; i <= most; i++) CHECK.due(call + " " + i, tell.getAsInt(), i);
            CHECK.due(call + ": one more", tell.getAsInt(), -1);
            CHECK.due(call + ": still one more", tell.getAsInt(), -1);
            CHECK.due(call + ": cleared", clear.getAsInt(), 0);
            CHECK.due(call + ": cleared again", clear.getAsInt(), 0);
        }
        CHECK.due(call + ": the first again", tell.getAsInt(), 1);
    }

    private static void streets() {
        CHECK.says("P29: (a NONE: none is then): how many; NONE if there are sixteen");
        VeiledLandaus x = new VeiledLandaus();
        fill("street", 16, () -> x.street(3, 4), () -> x.street(-1, 4));
        CHECK.due("cleared, whatever b is", x.street(-1, -1), 0);
        CHECK.due("no street", x.ways(3, 4, 0), 0);
        CHECK.says("STREETS, up to 16 told: the sixteenth counts, the seventeenth does not");
        for (int i = 0; i < 15; i++) x.street(0, 1);
        CHECK.due("the sixteenth", x.street(8, 9), 16);
        CHECK.due("counts", x.ways(8, 9, 1), 1);
        CHECK.due("the seventeenth", x.street(6, 7), -1);
        CHECK.due("does not", x.ways(6, 7, 1), -1);
        CHECK.says("P29: NONE if one can't be (0 .. 9; unlike)");
        VeiledLandaus y = new VeiledLandaus();
        y.street(0, 1);
        String before = Sight.of(y);
        for (int v : new int[] {10, 11}) notCorner(y, v);
        for (int v : Town.FAR) notCorner(y, v);
        CHECK.due("b NONE is no clearing", y.street(0, -1), -1);
        for (int v = 0; v <= 9; v++) CHECK.due("alike " + v, y.street(v, v), -1);
        CHECK.same("refused", Sight.of(y), before);
        CHECK.due("0 to 9", y.street(0, 9), 2);
        CHECK.due("9 to 0", y.street(9, 0), 3);
    }

    private static void notCorner(VeiledLandaus y, int v) {
        CHECK.due("street(" + v + ", 1)", y.street(v, 1), -1);
        CHECK.due("street(1, " + v + ")", y.street(1, v), -1);
        CHECK.due("street(" + v + ", " + v + ")", y.street(v, v), -1);
    }

    private static void refusedWays() {
        CHECK.says("P30: NONE if one can't be (alike), or another what");
        VeiledLandaus x = new VeiledLandaus();
        x.street(0, 1);
        x.street(1, 0);
        for (int v = 0; v <= 9; v++) {
            CHECK.due("alike: APART", x.ways(v, v, 0), -1);
            CHECK.due("alike: SHORT", x.ways(v, v, 1), -1);
        }
        for (int v : new int[] {-1, 10, 11}) notWays(x, v);
        for (int v : Town.FAR) notWays(x, v);
        otherWhats("ways", what -> x.ways(0, 1, what));
        CHECK.due("as before", x.ways(0, 1, 0), 1);
    }

    private static void notWays(VeiledLandaus x, int v) {
        for (int what = 0; what <= 1; what++) {
            CHECK.due("ways(" + v + ", 1, " + what + ")", x.ways(v, 1, what), -1);
            CHECK.due("ways(1, " + v + ", " + what + ")", x.ways(1, v, what), -1);
        }
    }

    private static VeiledLandaus roads(int... corners) {
        VeiledLandaus x = new VeiledLandaus();
        for (int i = 0; i + 1 < corners.length; i += 2) x.street(corners[i], corners[i + 1]);
        return x;
    }

    private static void way(String call, VeiledLandaus x, int a, int b, int apart, int few) {
        CHECK.due(call + ": APART", x.ways(a, b, 0), apart);
        CHECK.due(call + ": SHORT", x.ways(a, b, 1), few);
    }

    private static void ways() {
        CHECK.says("SHORT: the fewest streets by which one comes (NONE: none)");
        way("no street at all", roads(), 0, 9, 0, -1);
        way("one way alone", roads(0, 9), 9, 0, 0, -1);
        way("not so far", roads(0, 1, 2, 9), 0, 9, 0, -1);
        way("only from b", roads(9, 1, 1, 0), 0, 9, 0, -1);
        VeiledLandaus x = roads(0, 1, 1, 2, 2, 3, 3, 4, 4, 5, 5, 6, 6, 7, 7, 8, 8, 9);
        for (int b = 1; b <= 9; b++) way("a row, to " + b, x, 0, b, 1, b);
        way("back", x, 9, 0, 0, -1);
        x.street(0, 8);
        way("a shorter one", x, 0, 9, 1, 2);
        way("round about", roads(0, 1, 1, 0, 1, 2), 0, 2, 1, 2);
        CHECK.says("(a beside b: that street by one)");
        way("one street", roads(0, 1), 0, 1, 1, 1);
        way("told twice is the same street", roads(0, 1, 0, 1), 0, 1, 1, 1);
        way("one more by a corner", roads(0, 1, 0, 2, 2, 1), 0, 1, 2, 1);
        way("and by two corners", roads(0, 1, 0, 2, 2, 1, 0, 3, 3, 4, 4, 1), 0, 1, 3, 1);
        CHECK.says("APART: so that no corner between is used by two: at most");
        way("eight", roads(0, 1, 1, 9, 0, 2, 2, 9, 0, 3, 3, 9, 0, 4, 4, 9, 0, 5, 5, 9, 0, 6, 6, 9, 0, 7, 7, 9, 0, 8, 8, 9),
            0, 9, 8, 2);
        way("seven and the street", roads(9, 0, 9, 2, 2, 0, 9, 3, 3, 0, 9, 4, 4, 0, 9, 5, 5, 0, 9, 6, 6, 0, 9, 7, 7, 0, 9, 8, 8, 0),
            9, 0, 8, 1);
        way("one corner for all", roads(0, 1, 0, 2, 1, 3, 2, 3, 3, 4, 3, 5, 4, 9, 5, 9), 0, 9, 1, 4);
        way("two by a crossing", roads(0, 1, 0, 2, 1, 3, 1, 4, 2, 3, 3, 9, 4, 9), 0, 9, 2, 3);
        way("the shortest one bars two", roads(0, 1, 1, 2, 2, 9, 0, 3, 3, 2, 1, 4, 4, 9), 0, 9, 2, 3);
        way("not through b", roads(0, 9, 9, 1, 1, 9), 0, 9, 1, 1);
        way("not through a again", roads(0, 1, 1, 0, 0, 2, 2, 9, 1, 2), 0, 9, 1, 2);
        way("corners 8 and 9 between", roads(0, 8, 8, 1, 0, 9, 9, 1), 0, 1, 2, 2);
    }

    private static void kin() {
        CHECK.says("P31: KIN (alike: 0); NONE if not, or one can't be");
        VeiledLandaus x = Town.of(12, 1);
        for (int v = 0; v < 12; v++) CHECK.due("kin(" + v + ", " + v + ")", x.kin(v, v), 0);
        CHECK.due("no SISTERS", x.kin(0, 1), -1);
        for (int v : new int[] {-1, 12, 13}) notKin(x, v);
        for (int v : Town.FAR) notKin(x, v);
        CHECK.due("an empty church", new VeiledLandaus().kin(0, 0), -1);
        VeiledLandaus few = Town.of(3, 0);
        CHECK.due("the last one", few.kin(2, 2), 0);
        CHECK.due("none such", few.kin(3, 3), -1);
        CHECK.says("how many steps they are apart");
        StringBuilder row = new StringBuilder();
        for (int i = 0; i < 11; i++) row.append("woman ").append(i + i % 2).append(" sister ").append(i + 1 - i % 2).append(";");
        CHECK.due("eleven lines", Check.tell(x, 3, row.toString()), 11);
        for (int a = 0; a < 12; a += 1 + a % 3) {
            for (int b = 0; b < 12; b++) CHECK.due("kin(" + a + ", " + b + ")", x.kin(a, b), Math.abs(a - b));
        }
        Check.tell(x, 3, row + "woman 0 sister 11;");
        CHECK.due("in a ring: 6", x.kin(0, 6), 6);
        CHECK.due("in a ring: 7", x.kin(0, 7), 5);
        CHECK.due("in a ring: 11", x.kin(11, 0), 1);
        CHECK.says("(either way): told twice, told both ways");
        Check.tell(x, 3, "woman 3 sister 4; woman 4 sister 3; woman 3 sister 4;");
        CHECK.due("one step", x.kin(4, 3), 1);
        CHECK.due("SISTERS of 3", x.of(3, 4), 16);
        CHECK.due("SISTERS of 4", x.of(4, 4), 8);
        CHECK.due("not kin", x.kin(4, 5), -1);
        Check.tell(x, 3, "");
        CHECK.due("told as empty", x.kin(3, 4), -1);
    }

    private static void notKin(VeiledLandaus x, int v) {
        CHECK.due("kin(" + v + ", 0)", x.kin(v, 0), -1);
        CHECK.due("kin(0, " + v + ")", x.kin(0, v), -1);
        CHECK.due("kin(" + v + ", " + v + ")", x.kin(v, v), -1);
    }

    private static void groups() {
        CHECK.says("P32: NONE for another what");
        VeiledLandaus x = Town.of(12, 0);
        otherWhats("groups", x::groups);
        CHECK.says("GROUPS of all WOMEN: how many; the greatest one");
        VeiledLandaus none = new VeiledLandaus();
        CHECK.due("an empty church: how many", none.groups(0), 0);
        CHECK.due("an empty church: the set", none.groups(1), 0);
        CHECK.due("twelve by themselves", x.groups(0), 12);
        CHECK.due("the least WOMAN's", x.groups(1), 1);
        Check.tell(x, 3, "woman 11 sister 10;");
        CHECK.due("one couple", x.groups(0), 11);
        CHECK.due("the couple", x.groups(1), 1024 + 2048);
        StringBuilder all = new StringBuilder();
        for (int i = 1; i < 12; i++) all.append("woman ").append(i).append(" sister 0;");
        Check.tell(x, 3, all.toString());
        CHECK.due("all in one", x.groups(0), 1);
        CHECK.due("all", x.groups(1), 4095);
        StringBuilder row = new StringBuilder();
        for (int i = 11; i > 0; i--) row.append("woman ").append(i).append(" sister ").append(i - 1).append(";");
        Check.tell(x, 3, row.toString());
        CHECK.due("(and their sisters, and so on)", x.groups(1), 4095);
        CHECK.says("(a set; of several that with the least WOMAN)");
        Check.tell(x, 3, "woman 8 sister 9; woman 3 sister 5; woman 1 sister 11; woman 4 sister 2;");
        CHECK.due("of four couples", x.groups(1), 2 + 2048);
        CHECK.due("how many", x.groups(0), 8);
        Check.tell(x, 3, "woman 8 sister 9; woman 9 sister 10; woman 3 sister 5; woman 5 sister 7; woman 0 sister 1;");
        CHECK.due("of two of three", x.groups(1), 8 + 32 + 128);
        x = Town.of(3, 0);
        Check.tell(x, 3, "woman 2 sister 1;");
        CHECK.due("of three: how many", x.groups(0), 2);
        CHECK.due("of three: the set", x.groups(1), 6);
        x.woman(0, 0, 0);
        CHECK.due("one WOMAN more", x.groups(0), 3);
    }

    private static void steps() {
        CHECK.says("P33: (NONE: none is then): how many; NONE if there are twelve");
        VeiledLandaus x = new VeiledLandaus();
        fill("step", 12, () -> x.step(7), () -> x.step(-1));
        CHECK.says("ALIKE, up to 12 told: the twelfth counts, the thirteenth does not");
        x.step(-1);
        CHECK.due("none is then", x.alike(99, 0), 0);
        for (int i = 0; i < 11; i++) x.step(7);
        CHECK.due("eleven", x.alike(0, 0), 11);
        CHECK.due("the twelfth", x.step(7), 12);
        CHECK.due("twelve", x.alike(0, 0), 12);
        CHECK.due("couples", x.alike(0, 1), 66);
        CHECK.due("the thirteenth", x.step(7), -1);
        CHECK.due("twelve", x.alike(0, 0), 12);
        CHECK.says("P33: NONE if one can't be (0 .. 99)");
        VeiledLandaus y = new VeiledLandaus();
        y.step(7);
        String before = Sight.of(y);
        for (int v : new int[] {-2, 100, 101}) CHECK.due("step(" + v + ")", y.step(v), -1);
        for (int v : Town.FAR) {
            if (v < 0 || v > 99) CHECK.due("step(" + v + ")", y.step(v), -1);
        }
        CHECK.same("refused", Sight.of(y), before);
        CHECK.due("0", y.step(0), 2);
        CHECK.due("99", y.step(99), 3);
    }

    private static VeiledLandaus told(int... steps) {
        VeiledLandaus x = new VeiledLandaus();
        for (int v : steps) x.step(v);
        return x;
    }

    private static void alikeOf(VeiledLandaus x, int d, int most, int couples) {
        CHECK.due("alike(" + d + ", 0)", x.alike(d, 0), most);
        CHECK.due("alike(" + d + ", 1)", x.alike(d, 1), couples);
    }

    private static void alike() {
        CHECK.says("P34: NONE if d can't be (0 .. 99), or another what");
        VeiledLandaus x = told(3, 5);
        for (int d : new int[] {-1, 100, 101}) alikeOf(x, d, -1, -1);
        for (int d : Town.FAR) {
            if (d < 0 || d > 99) alikeOf(x, d, -1, -1);
        }
        otherWhats("alike", what -> x.alike(5, what));
        CHECK.says("the most of them; in how many couples");
        alikeOf(told(), 0, 0, 0);
        alikeOf(told(), 99, 0, 0);
        alikeOf(told(50), 0, 1, 0);
        alikeOf(told(50), 99, 1, 0);
        CHECK.says("apart by d (0 .. 99) at most");
        alikeOf(told(0, 99), 98, 1, 0);
        alikeOf(told(0, 99), 99, 2, 1);
        alikeOf(told(99, 0), 98, 1, 0);
        alikeOf(told(99, 0), 99, 2, 1);
        alikeOf(told(4, 5), 0, 1, 0);
        alikeOf(told(5, 4), 1, 2, 1);
        alikeOf(told(4, 4), 0, 2, 1);
        CHECK.says("each from each");
        alikeOf(told(0, 3, 6), 3, 2, 2);
        alikeOf(told(3, 0, 6), 5, 2, 2);
        alikeOf(told(6, 3, 0), 6, 3, 3);
        alikeOf(told(0, 0, 1, 2, 2, 2, 9, 10, 11), 1, 4, 2 + 3 + 1 + 3 + 2);
        alikeOf(told(0, 10, 20, 30, 40, 50, 60, 70, 80, 90, 99, 5), 99, 12, 66);
        alikeOf(told(0, 10, 20, 30, 40, 50, 60, 70, 80, 90, 99, 5), 9, 2, 3);
    }

    private static void carriages() {
        CHECK.says("P35: false if one can't be (i 0 .. 2, minutes 1 .. 30, 0 .. 30 when it can set off)");
        VeiledLandaus x = new VeiledLandaus();
        x.carriage(0, 4, 2);
        x.carriage(1, 5, 6);
        x.carriage(2, 3, 9);
        String before = Sight.of(x);
        for (int i : new int[] {-1, 3, 4}) CHECK.due("carriage(" + i + ", 1, 0)", x.carriage(i, 1, 0), false);
        for (int v : new int[] {-1, 0, 31}) CHECK.due("carriage(0, " + v + ", 0)", x.carriage(0, v, 0), false);
        for (int v : new int[] {-1, 31, 32}) CHECK.due("carriage(0, 1, " + v + ")", x.carriage(0, 1, v), false);
        for (int v : Town.FAR) {
            CHECK.due("carriage(" + v + ", 1, 0)", x.carriage(v, 1, 0), false);
            if (v < 0 || v > 30) {
                CHECK.due("carriage(0, " + v + ", 0)", x.carriage(0, v, 0), false);
                CHECK.due("carriage(0, 1, " + v + ")", x.carriage(0, 1, v), false);
            }
        }
        CHECK.same("refused", Sight.of(x), before);
        for (int i = 0; i < 3; i++) {
            CHECK.due("the least", x.carriage(i, 1, 0), true);
            CHECK.due("the greatest", x.carriage(i, 30, 30), true);
        }
        CHECK.due("three times 30, from 30 on", x.down(1), 120);
        CHECK.says("(1, 0 at first): each by itself");
        for (int i = 0; i < 3; i++) {
            VeiledLandaus y = new VeiledLandaus();
            CHECK.due("at first: the order", y.down(0), 12);
            CHECK.due("at first: the minute", y.down(1), 3);
            y.carriage(i, 30, 0);
            CHECK.due("30 of " + i, y.down(1), 32);
            y.carriage(i, 1, 30);
            CHECK.due("from 30 on: " + i, y.down(1), 31);
            CHECK.due("it comes last", y.down(0), i == 0 ? 120 : i == 1 ? 21 : 12);
            y.carriage(i, 1, 1);
            CHECK.due("from 1 on: none waits", y.down(1), 3);
            CHECK.due("the least order", y.down(0), i == 0 ? 102 : 12);
            y.carriage(i, 1, 2);
            CHECK.due("from 2 on", y.down(1), 3);
            y.carriage(i, 1, 3);
            CHECK.due("from 3 on", y.down(1), 4);
        }
    }

    private static void down() {
        CHECK.says("P36: NONE for another what");
        VeiledLandaus x = new VeiledLandaus();
        otherWhats("down", x::down);
        CHECK.says("the order for which the last one is done first (of several the least)");
        int[][] orders = {{0, 1, 2}, {0, 2, 1}, {1, 0, 2}, {1, 2, 0}, {2, 0, 1}, {2, 1, 0}};
        for (int[] order : orders) {
            // each can set off just when the one before it is done, so no other order is as good
            x.carriage(order[0], 5, 0);
            x.carriage(order[1], 6, 5);
            x.carriage(order[2], 7, 11);
            CHECK.due("the order", x.down(0), 100 * order[0] + 10 * order[1] + order[2]);
            CHECK.due("the minute", x.down(1), 18);
            x.carriage(order[1], 6, 6);
            CHECK.due("a minute of waiting: the order", x.down(0), 100 * order[0] + 10 * order[1] + order[2]);
            CHECK.due("a minute of waiting", x.down(1), 19);
            x.carriage(order[1], 6, 0);
            x.carriage(order[2], 7, 0);
            CHECK.due("all alike: the least", x.down(0), 12);
            CHECK.due("all alike", x.down(1), 18);
        }
        CHECK.says("the door serves one at a time");
        x = new VeiledLandaus();
        x.carriage(0, 10, 0);
        x.carriage(1, 1, 2);
        x.carriage(2, 1, 3);
        CHECK.due("they wait for the first", x.down(1), 12);
        CHECK.due("012 and 021 are alike", x.down(0), 12);
        x.carriage(0, 10, 30);
        x.carriage(1, 30, 30);
        x.carriage(2, 1, 29);
        CHECK.due("2 first", x.down(0), 201);
        CHECK.due("the door is free from 30 on", x.down(1), 70);
    }

    private static void offers() {
        CHECK.says("P37: (NONE: none is then): how many; NONE if there are seven");
        VeiledLandaus x = new VeiledLandaus();
        fill("offer", 7, () -> x.offer(5), () -> x.offer(-1));
        CHECK.says("SILENCE: up to 7 told: the seventh counts, the eighth does not");
        x.offer(-1);
        for (int i = 0; i < 6; i++) x.offer(5);
        CHECK.due("six", x.stop(1), 720);
        CHECK.due("the seventh", x.offer(6), 7);
        int seven = x.stop(1);
        CHECK.due("the one greatest: not all", seven < 5040 && seven > 720, true);
        CHECK.due("the eighth", x.offer(6), -1);
        CHECK.due("as before", x.stop(1), seven);
        CHECK.says("P37: NONE if one can't be (0 .. 99)");
        VeiledLandaus y = new VeiledLandaus();
        y.offer(7);
        String before = Sight.of(y);
        for (int v : new int[] {-2, 100, 101}) CHECK.due("offer(" + v + ")", y.offer(v), -1);
        for (int v : Town.FAR) {
            if (v < 0 || v > 99) CHECK.due("offer(" + v + ")", y.offer(v), -1);
        }
        CHECK.same("refused", Sight.of(y), before);
        CHECK.due("0", y.offer(0), 2);
        CHECK.due("99", y.offer(99), 3);
    }

    private static void stop() {
        CHECK.says("P38: NONE without offers, or for another what");
        VeiledLandaus x = new VeiledLandaus();
        CHECK.due("STOP", x.stop(0), -1);
        CHECK.due("orders", x.stop(1), -1);
        otherWhats("stop", x::stop);
        x.offer(0);
        otherWhats("stop", x::stop);
        x.offer(-1);
        CHECK.due("none is then: STOP", x.stop(0), -1);
        CHECK.due("none is then: orders", x.stop(1), -1);
        CHECK.says("the k (0 .. how many less one), of several the least; in how many orders");
        silence(0, 1, 0);
        silence(0, 1, 99);
        silence(0, 1, 0, 99);
        silence(0, 2, 99, 99);
        silence(1, 3, 0, 1, 2);
        silence(1, 11, 9, 8, 7, 6);
        silence(2, 52, 1, 2, 3, 4, 5);
        silence(2, 308, 11, 22, 33, 44, 55, 66);
        silence(2, 2088, 99, 0, 98, 1, 50, 60, 40);
        CHECK.says("(of places): an offer as great as the greatest");
        silence(0, 6, 5, 5, 5);
        silence(0, 24, 0, 0, 0, 0);
        silence(0, 5040, 9, 9, 9, 9, 9, 9, 9);
        tried(1, 1, 0);
        tried(0, 1, 1);
        tried(2, 2, 1, 1);
        tried(2, 2, 2, 1);
        tried(1, 2, 2, 3, 3);
        tried(1, 1, 1, 1, 2);
        tried(0, 0, 0, 9, 9, 9);
        tried(5, 4, 4, 4, 4, 5);
        tried(7, 7, 6, 6, 5, 5);
        tried(1, 1, 1, 1, 1, 9);
        tried(1, 1, 1, 2, 2, 2);
        tried(1, 1, 1, 1, 1, 1, 2);
        tried(1, 1, 2, 2, 3, 3, 3);
        tried(9, 9, 8, 8, 7, 7, 6);
        tried(9, 1, 2, 3, 4, 4, 9);
    }

    private static void silence(int k, int orders, int... offers) {
        VeiledLandaus x = new VeiledLandaus();
        for (int v : offers) x.offer(v);
        CHECK.due("STOP of " + offers.length, x.stop(0), k);
        CHECK.due("orders of " + offers.length, x.stop(1), orders);
        tried(offers);
    }

    /** Held against all orders. */
    private static void tried(int... offers) {
        int[] good = new int[offers.length];
        orders(offers, 0, good);
        int best = 0;
        for (int k = 1; k < good.length; k++) best = good[k] > good[best] ? k : best;
        VeiledLandaus x = new VeiledLandaus();
        for (int v : offers) x.offer(v);
        CHECK.due("STOP of " + Arrays.toString(offers), x.stop(0), best);
        CHECK.due("orders of " + Arrays.toString(offers), x.stop(1), good[best]);
    }

    private static void orders(int[] row, int fixed, int[] good) {
        if (fixed == row.length) {
            int greatest = 0;
            for (int v : row) greatest = Math.max(greatest, v);
            for (int k = 0; k < good.length; k++) good[k] += taken(row, k) == greatest ? 1 : 0;
            return;
        }
        for (int i = fixed; i < row.length; i++) {
            int[] next = row.clone();
            next[fixed] = row[i];
            next[i] = row[fixed];
            orders(next, fixed + 1, good);
        }
    }

    /** The first one behind the first k that is above all of these, else the last one (k 0: the first). */
    private static int taken(int[] row, int k) {
        int bar = -1;
        for (int i = 0; i < k; i++) bar = Math.max(bar, row[i]);
        for (int i = k; i < row.length; i++) {
            if (row[i] > bar) return row[i];
        }
        return row[row.length - 1];
    }

    /** A town whose GROOMS have so many CHILDREN. */
    private static VeiledLandaus withChildren(int... children) {
        VeiledLandaus x = Town.sure(4, children.length, "joy 0;", 0);
        for (int groom = 0; groom < children.length; groom++) {
            x.wed(groom, 1, 2, 3);
            x.set(5, groom, 99);
            for (int i = 0; i < children[groom]; i++) {
                x.state(Draws.of(0));
                x.years(1);
            }
            x.part(groom);
            CHECK.due("CHILDREN of " + groom, x.who(groom, 4), children[groom]);
        }
        return x;
    }

    private static void game(int... children) {
        VeiledLandaus x = withChildren(children);
        int groom = -1;
        int many = -1;
        List<Integer> heaps = new ArrayList<>();
        for (int c : children) heaps.add(c);
        for (int g = 0; g < children.length && groom < 0; g++) {
            for (int n = 1; n <= Math.min(3, children[g]) && groom < 0; n++) {
                List<Integer> left = new ArrayList<>(heaps);
                left.set(g, children[g] - n);
                if (!Model.wins(left)) {
                    groom = g;
                    many = n;
                }
            }
        }
        CHECK.due("the GROOM of " + heaps, x.game(0), groom);
        CHECK.due("how many of " + heaps, x.game(1), many);
    }

    private static void one(int children, int groom, int many) {
        VeiledLandaus x = withChildren(0, children);
        CHECK.due("one heap of " + children + ": the GROOM", x.game(0), groom);
        CHECK.due("one heap of " + children + ": how many", x.game(1), many);
    }

    private static void heaps() {
        CHECK.says("P39: NONE if who begins loses, or for another what");
        VeiledLandaus x = withChildren(2, 3);
        otherWhats("game", x::game);
        VeiledLandaus none = new VeiledLandaus();
        CHECK.due("an empty church: the GROOM", none.game(0), -1);
        CHECK.due("an empty church: how many", none.game(1), -1);
        otherWhats("game", none::game);
        x = withChildren(0, 0, 0);
        CHECK.due("no CHILDREN: the GROOM", x.game(0), -1);
        CHECK.due("no CHILDREN: how many", x.game(1), -1);
        CHECK.says("take 1, 2 or 3 of one; who takes the last one of all loses");
        one(1, -1, -1);
        one(2, 1, 1);
        one(3, 1, 2);
        one(4, 1, 3);
        one(5, -1, -1);
        one(6, 1, 1);
        one(17, -1, -1);
        one(18, 1, 1);
        one(19, 1, 2);
        one(20, 1, 3);
        CHECK.says("the GROOM (of several the least), how many (the fewest)");
        game(1, 1);
        game(1, 2);
        game(2, 1);
        game(2, 2);
        game(3, 3);
        game(4, 4);
        game(4, 1);
        game(1, 4);
        game(5, 5);
        game(1, 1, 1);
        game(1, 1, 1, 1);
        game(1, 2, 3);
        game(3, 2, 2);
        game(0, 5, 0, 5, 1);
        game(4, 5, 6, 7);
        game(1, 1, 1, 1, 1, 1, 1, 1);
        game(0, 0, 0, 0, 0, 0, 0, 2);
        game(20, 20);
        game(20, 19, 1);
        CHECK.says("from CHILDREN of GROOMS: of all eight, 20 at most");
        x = withChildren(20, 20, 20, 20, 20, 20, 20, 20);
        CHECK.due("eight times 20: the GROOM", x.game(0), 0);
        CHECK.due("eight times 20: how many", x.game(1), 3);
    }
}
