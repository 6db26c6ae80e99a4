import java.util.function.ToIntFunction;

/** The edges of what comes and what is best, promises 14 to 21, by the document's words. */
public final class AheadEdgesTest {
    private static final Due due = new Due();
    private static final int NONE = HourGreen.NONE, NO = HourGreen.NO, BAD = HourGreen.BAD;

    public static void main(String[] args) {
        askingChangesNothing();
        outOf0Years();
        outAsLateAsCanBe();
        outNever();
        behind0To60();
        beyondTheLastYear();
        noneAndAllAbove();
        nothingToPack();
        nothingFits();
        packedInFrost();
        packedWithMostWorth();
        packedLowestAhead();
        packedFirstOfSeveral();
        packedAllSeven();
        setsOfHours();
        oneOfThemInThePorch();
        othersAboveOneOfThem();
        cheap1To140();
        cheapNone();
        cheapFewestStirredFirst();
        cheapThenOfFewest();
        cheapThenTheLowest();
        deeperThanEight();
        deeperTheLowestOfSeveral();
        deeperOfNothing();
        years1To20();
        due.end();
    }

    private static HourGreen inYear(String text, int year) {
        HourGreen g = Due.laid(text);
        for (int left = year; left > 0; left -= 20) {
            g.pass(Math.min(left, 20));
        }
        return g;
    }

    private static HourGreen busy() {
        HourGreen g = new HourGreen();
        Due.write(g, "g9;w0,1;f0;");
        g.pass(1);
        g.dig(0);
        g.keep();
        g.up(0);
        g.put(5, 1);
        g.seen(1, 3, 1);
        g.seen(0, 0, 1);
        g.keep();
        return g;
    }

    private static void asked(String call, ToIntFunction<HourGreen> ask) {
        due.still(call, AheadEdgesTest::busy, ask, ask.applyAsInt(busy()));
    }

    /** "From now on, nothing else being done": what is asked, and asked once more, leaves all as it is. */
    private static void askingChangesNothing() {
        for (int i = 0; i < 8; i++) {
            int it = i;
            asked("6 plot " + it, g -> g.plot(it % 3, it % 4));
            asked("7 hour " + it, g -> g.hour(it % 7, it % 5));
            asked("8 fits " + it, g -> g.fits(it % 7, it % 3));
            asked("14 out " + it, g -> g.out(it % 7));
            asked("15 behind " + it, g -> g.behind(8 * it, it % 7));
            asked("16 above " + it, g -> g.above(it % 7));
            asked("17 packs " + it, g -> g.packs(it - 1));
            asked("18 stir " + it, g -> g.stir(2 * it));
            asked("19 cheap " + it, g -> g.cheap(1 + 5 * it, it % 2));
            asked("20 deeper " + it, g -> g.deeper(it % 2));
            asked("21 years " + it, g -> g.years(1 + it));
            asked("24 plots " + it, g -> g.plots(it % 7));
            asked("25 kinds " + it, g -> g.kinds(it % 7));
            asked("26 likely " + it, g -> g.likely(it % 7, it, it, it % 2));
            asked("27 decade " + it, g -> g.decade(1111 * it, 1 + 8 * it, it % 3));
            asked("30 count " + it, g -> g.count(it));
        }
        asked("4 fault", HourGreen::fault);
    }

    /** "OUT of an HOUR: behind how many YEARS (0 to 60) it is in the PORCH first". */
    private static void outOf0Years() {
        HourGreen g = Due.laid("g9;h0,1,0;w0,1;w3,1;");
        due.is("14 it is there", g.out(1), 0);
        due.is("14 it is there", g.out(2), 0);
        due.is("14 by the next year", g.out(0), 1);
        g.pass(1);
        due.is("14 thrown out", g.out(0), 0);
        g.put(0, 0);
        due.is("14 put in", g.out(0), 1);
        g.up(0);
        due.is("14 had up", g.out(0), 0);
    }

    /** "(0 to 60)": no HOUR that is thrown out at all lies longer than seven rounds of five YEARS. */
    private static void outAsLateAsCanBe() {
        HourGreen g = Due.laid("g9;g9;g9;g9;g9;" + "h0,1,4;".repeat(7));
        for (int h = 0; h < 7; h++) {
            int out = 5 * (7 - h);
            due.is("14 out(" + h + ")", g.out(h), out);
            due.is("15 the year ahead", g.behind(out - 1, h), 4);
            due.is("15 then", g.behind(out, h), NONE);
        }
        for (int plots = 1; plots <= 5; plots++) {
            HourGreen one = Due.laid("g9;".repeat(plots) + "h0,1," + (plots - 1) + ";h2,1,0;");
            int first = plots == 1 ? 2 : plots;
            due.is("14 out of " + plots, one.out(0), first);
            due.is("14 out of " + plots, one.out(1), 1);
        }
    }

    /** "none": it lies for all the 60 YEARS, or beneath one that does. */
    private static void outNever() {
        for (int kind = 1; kind <= 3; kind += 2) {
            HourGreen g = Due.laid("g9;g9;h0,1,0;h" + kind + ",1,0;h0,1,1;");
            due.is("14 beneath " + kind, g.out(0), NONE);
            due.is("14 of kind " + kind, g.out(1), NONE);
            due.is("14 elsewhere", g.out(2), 2);
            due.is("15 behind 60", g.behind(60, 0), 0);
            due.is("15 behind 60", g.behind(60, 1), 0);
        }
        due.still("14 NONE changes nothing", () -> Due.laid("g9;h1,1,0;"), g -> g.out(0), NONE);
        due.still("14 BAD", () -> Due.laid("g9;h1,1,0;"), g -> g.out(1), BAD);
    }

    /** "BEHIND n (0 to 60) YEARS where it is: the PLOT; none (the PORCH)". */
    private static void behind0To60() {
        HourGreen g = Due.laid("g9;g9;g9;h0,1,2;h1,1,1;w0,1;");
        due.is("15 behind(0, 0)", g.behind(0, 0), 2);
        due.is("15 behind(2, 0)", g.behind(2, 0), 2);
        due.is("15 behind(3, 0)", g.behind(3, 0), NONE);
        due.is("15 behind(60, 0)", g.behind(60, 0), NONE);
        due.is("15 behind(0, 1)", g.behind(0, 1), 1);
        due.is("15 behind(60, 1)", g.behind(60, 1), 1);
        due.is("15 behind(0, 2)", g.behind(0, 2), NONE);
        due.still("15 BAD ahead of NONE", () -> Due.laid("g9;w0,1;"), it -> it.behind(61, 0), BAD);
        due.still("15 BAD ahead of NONE", () -> Due.laid("g9;w0,1;"), it -> it.behind(-1, 0), BAD);
        due.still("15 BAD", () -> Due.laid("g9;w0,1;"), it -> it.behind(0, 1), BAD);
    }

    /** "(beyond the last that may go by, too)". */
    private static void beyondTheLastYear() {
        // 999 modulo 5 is 4: rabbits come to plot 4 first.
        HourGreen g = inYear("g9;g9;g9;g9;g9;" + "w0,1;".repeat(7), 999);
        due.is("10 put", g.put(0, 4), 8);
        due.is("10 put", g.put(1, 3), 8);
        due.is("14 in 999 itself", g.out(0), 1);
        due.is("14 in 1003", g.out(1), 5);
        due.is("15 behind 1", g.behind(1, 0), NONE);
        due.is("15 behind 4", g.behind(4, 1), 3);
        due.is("15 behind 60", g.behind(60, 1), NONE);
        due.is("21 years(4)", g.years(4), 1);
        due.is("21 years(20)", g.years(20), 2);
        g.seen(1, 0, 1);
        g.seen(5, 1, 1);
        g.seen(4, 1, 0);
        due.is("24 plots", g.plots(0), 16);
        due.is("25 kinds", g.kinds(1), 5);
        due.is("26 likely", g.likely(0, 8, 5, 1), 4);
        due.is("26 likely", g.likely(1, 4, 10, 0), 1);
        due.is("26 likely", g.likely(1, 5, 10, 0), 0);
        due.is("30 year", g.count(2), 999);
    }

    /** "ABOVE an HOUR: HOURS (bits) that lie above it."; "(0 in the PORCH). BAD." */
    private static void noneAndAllAbove() {
        HourGreen g = Due.laid("g9;" + "h0,1,0;".repeat(7));
        int[] want = {126, 124, 120, 112, 96, 64, 0};
        for (int h = 0; h < 7; h++) {
            due.is("16 above(" + h + ")", g.above(h), want[h]);
        }
        HourGreen two = Due.laid("g9;g9;w0,1;h0,1,0;h0,1,1;w0,1;");
        for (int h = 0; h < 4; h++) {
            due.is("16 none is above", two.above(h), 0);
        }
        // Above is what was put in later, not what has the higher number.
        g.up(0);
        g.put(0, 0);
        due.is("16 above(1)", g.above(1), 125);
        due.is("16 above(6)", g.above(6), 1);
        due.is("16 above(0)", g.above(0), 0);
        due.is("18 stir(64)", g.stir(64), 1);
        due.still("16 BAD", () -> Due.laid("g9;h0,1,0;"), it -> it.above(1), BAD);
    }

    private static void packs(String text, int much, int... places) {
        HourGreen g = Due.laid(text);
        due.is("17 packs(-1) of " + text, g.packs(-1), much);
        for (int h = 0; h < places.length; h++) {
            due.is("17 packs(" + h + ") of " + text, g.packs(h), places[h]);
        }
        due.is("17 packs(-2) of " + text, g.packs(-2), BAD);
        due.is("17 beyond the last of " + text, g.packs(places.length), BAD);
    }

    /** "of all ways to PUT IN those in the PORCH now": there may be none. */
    private static void nothingToPack() {
        packs("g9;h0,20,0;", 0, 0);
        packs("g9;g9;h0,1,1;h0,1,0;h0,1,1;", 0, 1, 0, 1);
        packs("g1;h3,1,0;", 0, 0);
    }

    /** "each in a PLOT or not": nothing may go in at all. */
    private static void nothingFits() {
        packs("g1;w1,20;", 0, NONE);
        packs("g1;g1;h0,1,0;h3,1,1;w0,20;w3,20;w2,20;", 0, 0, 1, NONE, NONE, NONE);
        packs("g9;h3,1,0;w0,20;w2,20;", 0, 0, NONE, NONE);
        packs("g2;h0,1,0;w1,20;w0,1;", 1, 0, NONE, 0);
        packs("g1;h2,1,0;w0,20;w2,1;", 1, 0, NONE, 0);
    }

    /** "FROST or not". */
    private static void packedInFrost() {
        packs("g1;w0,7;f0;", 7, 0);
        HourGreen g = Due.laid("g1;w0,7;f0;");
        due.is("10 frost", g.put(0, 0), NO);
        due.is("17 packs", g.packs(-1), 7);
        due.is("20 deeper", g.deeper(1), 7);
    }

    /** "that by which most WORTH goes in". */
    private static void packedWithMostWorth() {
        packs("g1;w0,5;w0,6;", 6, NONE, 0);
        packs("g2;w1,10;w0,5;w0,6;", 11, NONE, 0, 0);
        packs("g2;w1,12;w0,5;w0,6;", 12, 0, NONE, NONE);
        packs("g2;g1;w0,5;w1,6;", 11, 1, 0);
        packs("g3;g2;w0,1;w1,2;w1,3;", 6, 0, 0, 1);
        packs("g2;g3;w0,1;w1,2;w1,3;", 6, 1, 0, 1);
        packs("g1;w0,5;w2,2;w2,2;w2,2;", 6, NONE, 0, 0, 0);
        packs("g1;w0,6;w2,2;w2,2;w2,2;", 6, 0, NONE, NONE, NONE);
        // What one could have been put above is there no more when it is left in the porch.
        packs("g1;w2,1;w2,5;w0,5;", 6, 0, 0, NONE);
        packs("g3;h2,1,0;w1,1;w2,5;w1,5;", 10, 0, NONE, 0, 0);
        packs("g1;w3,1;w0,5;", 5, NONE, 0);
    }

    /** "the lowest ahead": a later one lies above an earlier one, never beneath it. */
    private static void packedLowestAhead() {
        packs("g9;w3,5;w0,9;", 9, NONE, 0);
        packs("g9;w3,9;w0,5;", 9, 0, NONE);
        packs("g9;w0,5;w3,9;", 14, 0, 0);
        packs("g9;g1;w3,9;w0,5;", 14, 0, 1);
        packs("g1;g9;w3,9;w1,5;", 14, 0, 1);
        packs("g2;w2,5;w0,5;w2,5;", 10, 0, 0, NONE);
        packs("g2;w2,5;w2,5;w0,5;", 15, 0, 0, 0);
        packs("g2;w0,5;w2,5;w2,5;", 15, 0, 0, 0);
        packs("g1;g1;w2,5;w0,5;w2,5;", 15, 0, 1, 0);
    }

    /** "of several the first (HOUR by HOUR, the lowest PLOT ahead, not last)". */
    private static void packedFirstOfSeveral() {
        packs("g9;g9;g9;g9;g9;w0,1;", 1, 0);
        packs("g1;g1;g1;g1;g1;" + "w0,1;".repeat(6), 5, 0, 1, 2, 3, 4, NONE);
        packs("g1;w0,5;w0,5;", 5, 0, NONE);
        packs("g1;w0,5;w3,5;", 5, 0, NONE);
        packs("g9;w3,9;w0,9;", 9, 0, NONE);
        packs("g2;w0,5;w1,5;", 5, 0, NONE);
        packs("g2;g2;w1,4;w0,2;w0,2;", 8, 0, 1, 1);
        packs("g2;w2,1;w0,1;w2,2;", 3, 0, NONE, 0);
        packs("g1;g1;g1;h3,1,0;w0,4;w0,4;", 8, 0, 1, 2);
        // Plots as much of which is free, but that are not alike in what lies on top.
        packs("g1;g2;h2,1,1;w2,5;w0,5;w0,5;", 15, 1, 1, 0, 1);
        packs("g2;g1;h2,1,0;w2,5;w0,5;w0,5;", 15, 0, 0, 0, 1);
        packs("g2;g2;h0,1,0;h2,1,1;w0,5;w2,5;w3,5;", 15, 0, 1, 0, 1, 1);
        // The first of them is full.
        for (int kind = 0; kind <= 3; kind++) {
            packs("g1;g2;h0,1,0;w" + kind + ",5;", 5, 0, 1);
            packs("g9;g1;g2;h3,1,0;h0,1,1;w" + kind + ",5;", 5, 0, 1, 2);
        }
        packs("g1;g1;h2,1,1;w2,4;w0,4;", 8, 1, 1, 0);
    }

    /** "how much; where an HOUR is then": all seven of the most WORTH, and one less. */
    private static void packedAllSeven() {
        String seven = "w0,20;".repeat(7);
        packs("g7;" + seven, 140, 0, 0, 0, 0, 0, 0, 0);
        packs("g6;" + seven, 120, 0, 0, 0, 0, 0, 0, NONE);
        packs("g1;" + seven, 20, 0, NONE, NONE, NONE, NONE, NONE, NONE);
        packs("g1;g1;g1;g3;g1;" + seven, 140, 0, 1, 2, 3, 3, 3, 4);
        packs("g1;" + "w2,20;".repeat(7), 140, 0, 0, 0, 0, 0, 0, 0);
        packs("g9;" + "w1,20;".repeat(7), 80, 0, 0, 0, 0, NONE, NONE, NONE);
        packs("g9;g9;g9;g9;g9;" + "w3,20;".repeat(7), 100, 0, 1, 2, 3, 4, NONE, NONE);
        packs("g1;g1;g1;g1;g1;" + "w1,20;".repeat(7), 0, NONE, NONE, NONE, NONE, NONE, NONE, NONE);
    }

    /** "STIR of a set of HOURS (bits)": of none, of all; "BAD (bits of no HOUR)". */
    private static void setsOfHours() {
        for (int hours = 1; hours <= 7; hours++) {
            String text = "g9;" + "h0,1,0;".repeat(hours);
            HourGreen g = Due.laid(text);
            due.is("18 of none", g.stir(0), 0);
            due.is("18 of the lowest", g.stir(1), hours - 1);
            due.is("18 of the highest", g.stir(1 << hours - 1), 0);
            due.is("18 of all", g.stir((1 << hours) - 1), 0);
            int beyond = 1 << hours;
            for (int set : new int[] {beyond, beyond + 1, 2 * beyond - 1, -1, -beyond, 1 << 30, 1 << 31}) {
                due.still("18 stir(" + set + ") of " + hours, () -> Due.laid(text), it -> it.stir(set), BAD);
            }
        }
    }

    /** "NO: one of them is in the PORCH."; BAD ahead of it. */
    private static void oneOfThemInThePorch() {
        String text = "g9;h0,1,0;w0,1;h0,1,0;";
        due.is("18 of none", Due.laid(text).stir(0), 0);
        int[] want = {0, 1, NO, NO, 0, 0, NO, NO, BAD, BAD, BAD, BAD};
        for (int i = 0; i < want.length; i++) {
            int set = i;
            due.still("18 stir(" + set + ")", () -> Due.laid(text), g -> g.stir(set), want[set]);
        }
    }

    /** "how many others lie above one of them". */
    private static void othersAboveOneOfThem() {
        HourGreen g = Due.laid("g9;g9;h0,1,0;h0,1,0;h0,1,0;h0,1,0;h0,1,1;h0,1,1;h0,1,1;");
        int[][] sets = {{1, 3}, {3, 2}, {5, 2}, {9, 2}, {2, 2}, {15, 0}, {16, 2}, {17, 5}, {48, 1}, {80, 1}, {33, 4}};
        for (int[] one : sets) {
            due.is("18 stir(" + one[0] + ")", g.stir(one[0]), one[1]);
        }
    }

    private static void cheap(HourGreen g, int v, int set, int stirred) {
        due.is("19 cheap(" + v + ", 0)", g.cheap(v, 0), set);
        due.is("19 cheap(" + v + ", 1)", g.cheap(v, 1), stirred);
    }

    /** "CHEAP for v (1 to 140): of sets of HOURS that lie, together WORTH v or more". */
    private static void cheap1To140() {
        HourGreen rich = Due.laid("g9;" + "h0,20,0;".repeat(7));
        cheap(rich, 1, 64, 0);
        cheap(rich, 20, 64, 0);
        cheap(rich, 21, 96, 0);
        cheap(rich, 120, 126, 0);
        cheap(rich, 121, 127, 0);
        cheap(rich, 140, 127, 0);
        HourGreen poor = Due.laid("g9;h0,1,0;");
        cheap(poor, 1, 1, 0);
        cheap(poor, 2, NONE, NONE);
        due.still("19 cheap(0, 0)", () -> Due.laid("g9;h0,1,0;"), g -> g.cheap(0, 0), BAD);
        due.still("19 cheap(141, 0)", () -> Due.laid("g9;h0,1,0;"), g -> g.cheap(141, 0), BAD);
    }

    /** "none": what lies is not WORTH as much, or nothing lies; BAD ahead of it. */
    private static void cheapNone() {
        HourGreen g = Due.laid("g9;h0,5,0;h0,6,0;w0,20;");
        cheap(g, 11, 3, 0);
        cheap(g, 12, NONE, NONE);
        cheap(g, 140, NONE, NONE);
        cheap(Due.laid("g9;w0,20;"), 1, NONE, NONE);
        due.still("19 none", () -> Due.laid("g9;w0,20;"), it -> it.cheap(1, 0), NONE);
        due.still("19 BAD ahead of NONE", () -> Due.laid("g9;w0,20;"), it -> it.cheap(1, 2), BAD);
        due.still("19 BAD ahead of NONE", () -> Due.laid("g9;w0,20;"), it -> it.cheap(1, -1), BAD);
        due.still("19 BAD ahead of NONE", () -> Due.laid("g9;w0,20;"), it -> it.cheap(141, 1), BAD);
    }

    /** "that by which fewest others are STIRRED". */
    private static void cheapFewestStirredFirst() {
        cheap(Due.laid("g9;h0,9,0;h0,1,0;"), 9, 3, 0);
        cheap(Due.laid("g9;h0,9,0;" + "h0,1,0;".repeat(6)), 9, 127, 0);
        HourGreen two = Due.laid("g9;g9;h0,9,0;h0,1,0;h0,1,0;h0,4,1;h0,4,1;");
        cheap(two, 8, 24, 0);
        cheap(two, 9, 7, 0);
    }

    /** "of several that of fewest". */
    private static void cheapThenOfFewest() {
        cheap(Due.laid("g9;g9;h0,2,0;h0,2,0;h0,4,1;"), 4, 4, 0);
        cheap(Due.laid("g9;g9;h0,2,0;h0,2,0;h0,3,1;"), 4, 3, 0);
        cheap(Due.laid("g9;g9;h0,1,0;h0,1,0;h0,1,0;h0,1,1;h0,2,1;"), 3, 20, 0);
    }

    /** "then the lowest as bits". */
    private static void cheapThenTheLowest() {
        cheap(Due.laid("g9;g9;h0,5,0;h0,5,1;"), 5, 1, 0);
        cheap(Due.laid("g9;g9;h0,5,0;h0,5,1;"), 6, 3, 0);
        cheap(Due.laid("g9;g9;g9;g9;h0,1,0;h0,3,1;h0,3,2;h0,5,3;"), 6, 6, 0);
        cheap(Due.laid("g9;g9;w0,20;h0,5,0;h0,5,1;"), 5, 2, 0);
    }

    private static void deeper(String text, int which, int much) {
        HourGreen g = Due.laid(text);
        due.is("20 deeper(0) of " + text, g.deeper(0), which);
        due.is("20 deeper(1) of " + text, g.deeper(1), much);
    }

    /** "the PLOT (that has less than 9 ROOM)"; "none". */
    private static void deeperThanEight() {
        deeper("g8;w0,1;", 0, 1);
        deeper("g9;w0,1;", NONE, NONE);
        deeper("g9;g9;g9;g9;g9;w0,1;", NONE, NONE);
        deeper("g9;g9;g9;g9;g8;w0,1;", 4, 1);
        deeper("g9;g8;h3,1,1;w0,1;", 1, 1);
        HourGreen g = Due.laid("g8;w0,1;");
        g.dig(0);
        due.is("20 dug to 9", g.deeper(0), NONE);
        due.still("20 NONE", () -> Due.laid("g9;w0,1;"), it -> it.deeper(0), NONE);
        due.still("20 NONE", () -> Due.laid("g9;w0,1;"), it -> it.deeper(1), NONE);
        due.still("20 BAD ahead of NONE", () -> Due.laid("g9;w0,1;"), it -> it.deeper(2), BAD);
        due.still("20 BAD ahead of NONE", () -> Due.laid("g9;w0,1;"), it -> it.deeper(-1), BAD);
    }

    /** "by which, DUG now, PACKS is most, of several the lowest". */
    private static void deeperTheLowestOfSeveral() {
        deeper("g1;g1;w1,5;", 0, 5);
        deeper("g1;g1;g1;h3,1,0;w1,5;", 1, 5);
        deeper("g1;g1;g1;g1;g1;h3,1,0;h0,1,1;h0,1,2;h0,1,3;w1,5;", 4, 5);
        deeper("g1;g2;h0,1,0;h0,1,1;w0,5;w0,4;", 0, 9);
        deeper("g1;g2;h0,1,0;h0,1,1;w1,5;w0,4;", 1, 5);
        deeper("g8;" + "w1,20;".repeat(5), 0, 80);
        deeper("g7;" + "w1,20;".repeat(5), 0, 80);
        deeper("g6;" + "w1,20;".repeat(5), 0, 60);
    }

    /** "by which .. PACKS is most": no more than now, or nothing at all. */
    private static void deeperOfNothing() {
        deeper("g8;h0,1,0;", 0, 0);
        deeper("g9;g8;g8;h0,1,0;", 1, 0);
        deeper("g1;g1;h3,1,0;h3,1,1;w0,20;", 0, 0);
        deeper("g4;g4;w0,20;", 0, 20);
    }

    /** "YEARS of n (1 to 20): in how many of the next n YEARS something is thrown out." */
    private static void years1To20() {
        HourGreen seven = Due.laid("g9;" + "h0,1,0;".repeat(7));
        HourGreen late = Due.laid("g9;g9;g9;g9;g9;" + "h0,1,4;".repeat(7));
        HourGreen none = Due.laid("g9;h1,1,0;w0,1;");
        for (int n = 1; n <= 20; n++) {
            due.is("21 years(" + n + ")", seven.years(n), Math.min(n, 7));
            due.is("21 years(" + n + ") of five", late.years(n), n / 5);
            due.is("21 years(" + n + ") of none", none.years(n), 0);
        }
        due.still("21 years(0)", () -> Due.laid("g9;h0,1,0;"), g -> g.years(0), BAD);
        due.still("21 years(21)", () -> Due.laid("g9;h0,1,0;"), g -> g.years(21), BAD);
    }
}
