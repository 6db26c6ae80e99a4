/** Promises 14 to 21: what comes, what is best. */
public final class AheadTest {
    private static final Due due = new Due();

    public static void main(String[] args) {
        out();
        behind();
        above();
        packs();
        packsTakesTheFirstOfSeveral();
        stir();
        cheap();
        deeper();
        years();
        askingChangesNothing();
        due.end();
    }

    private static void out() {
        HourGreen g = Due.laid("g9;g9;g9;g9;g9;h0,1,4;h0,1,0;h1,1,1;h2,1,1;h3,1,2;w1,1;");
        int[] want = {5, 1, HourGreen.NONE, 2, HourGreen.NONE, 0};
        for (int h = 0; h < want.length; h++) {
            due.is("14 out(" + h + ")", g.out(h), want[h]);
        }
        due.is("14 out(-1)", g.out(-1), HourGreen.BAD);
        due.is("14 out(6)", g.out(6), HourGreen.BAD);
        g.pass(3);
        due.is("14 from year 3 on", g.out(0), 2);
        HourGreen deep = Due.laid("g9;g9;g9;g9;g9;h0,1,4;h0,1,4;h0,1,4;h0,1,4;h0,1,4;h0,1,4;h0,1,4;");
        due.is("14 the lowest of seven", deep.out(0), 35);
    }

    private static void behind() {
        HourGreen g = Due.laid("g9;g9;h0,1,1;h2,1,1;h1,1,0;w0,1;");
        int[] wantOf1 = {1, 1, HourGreen.NONE, HourGreen.NONE};
        int[] wantOf0 = {1, 1, 1, 1};
        for (int n = 0; n < 4; n++) {
            due.is("15 behind(" + n + ", 1)", g.behind(n, 1), wantOf1[n]);
            due.is("15 behind(" + n + ", 0)", g.behind(n, 0), wantOf0[n]);
        }
        due.is("15 behind(4, 0)", g.behind(4, 0), HourGreen.NONE);
        due.is("15 behind(60, 2)", g.behind(60, 2), 0);
        due.is("15 behind(0, 3)", g.behind(0, 3), HourGreen.NONE);
        due.is("15 behind(-1, 0)", g.behind(-1, 0), HourGreen.BAD);
        due.is("15 behind(61, 0)", g.behind(61, 0), HourGreen.BAD);
        due.is("15 behind(0, -1)", g.behind(0, -1), HourGreen.BAD);
        due.is("15 behind(0, 4)", g.behind(0, 4), HourGreen.BAD);
    }

    private static void above() {
        HourGreen g = Due.laid("g9;g9;h0,1,0;h0,1,1;h1,1,0;h0,1,1;h3,1,0;w0,1;");
        int[] want = {20, 8, 16, 0, 0, 0};
        for (int h = 0; h < want.length; h++) {
            due.is("16 above(" + h + ")", g.above(h), want[h]);
        }
        g.up(0);
        g.put(0, 1);
        due.is("16 hour 0 above", g.above(1), 9);
        due.is("16 hour 0 on top", g.above(0), 0);
        due.is("11 hour 0 is stirred", g.up(1), 2);
        due.is("11 it is one less deep", g.hour(0, 3), 1);
        due.is("16 above(-1)", g.above(-1), HourGreen.BAD);
        due.is("16 above(6)", g.above(6), HourGreen.BAD);
    }

    private static void packs(String text, int much, int... places) {
        HourGreen g = Due.laid(text);
        due.is("17 packs(-1) of " + text, g.packs(-1), much);
        for (int h = 0; h < places.length; h++) {
            due.is("17 packs(" + h + ") of " + text, g.packs(h), places[h]);
        }
        due.is("17 packs(-2)", g.packs(-2), HourGreen.BAD);
        due.is("17 packs beyond", g.packs(places.length), HourGreen.BAD);
    }

    private static void packs() {
        int n = HourGreen.NONE;
        packs("g4;g3;g5;h0,3,0;h1,7,0;h2,2,1;h2,4,1;h3,9,2;w0,5;w1,6;f2;", 11, 0, 0, 1, 1, 2, 0, 1);
        packs("g9;h0,3,0;", 0, 0);
        packs("g9;w0,3;f0;", 3, 0);
        packs("g1;w1,20;", 0, n);
        packs("g1;w0,3;w0,4;", 4, n, 0);
        packs("g9;w3,3;w0,4;", 4, n, 0);
        packs("g9;w0,4;w3,3;", 7, 0, 0);
        packs("g9;w3,5;w0,4;", 5, 0, n);
        packs("g9;h3,1,0;w0,20;", 0, 0, n);
        packs("g1;w2,1;w2,1;w2,1;w0,2;", 3, 0, 0, 0, n);
        packs("g2;g1;w2,1;w2,1;w2,1;w0,2;w0,2;", 7, 0, 0, 0, 0, 1);
        packs("g2;w0,3;w0,3;w1,6;", 6, 0, 0, n);
        packs("g2;w1,6;w0,3;w0,4;", 7, n, 0, 0);
        packs("g1;h2,9,0;w2,4;w0,5;", 4, 0, 0, n);
    }

    private static void packsTakesTheFirstOfSeveral() {
        int n = HourGreen.NONE;
        packs("g1;g1;w0,3;", 3, 0);
        packs("g1;g9;w0,3;w0,3;", 6, 0, 1);
        packs("g2;w0,3;w1,3;", 3, 0, n);
        packs("g2;g1;w0,3;w1,3;", 6, 1, 0);
        packs("g1;g2;w0,3;w1,3;", 6, 0, 1);
        packs("g2;g1;w0,2;w1,3;", 5, 1, 0);
        packs("g1;g1;w0,2;w0,2;w0,2;", 4, 0, 1, n);
        packs("g1;w0,2;w0,2;", 2, 0, n);
        packs("g3;g3;w3,5;w3,5;w3,5;", 10, 0, 1, n);
    }

    private static void stir() {
        HourGreen g = Due.laid("g9;g9;h0,1,0;h0,1,0;h0,1,0;h0,1,1;h0,1,1;w0,1;");
        int[] sets = {0, 1, 2, 4, 3, 5, 7, 8, 16, 9, 24, 31};
        int[] want = {0, 2, 1, 0, 1, 1, 0, 1, 0, 3, 0, 0};
        for (int i = 0; i < sets.length; i++) {
            due.is("18 stir(" + sets[i] + ")", g.stir(sets[i]), want[i]);
        }
        due.is("18 in the porch", g.stir(32), HourGreen.NO);
        due.is("18 one in the porch", g.stir(63), HourGreen.NO);
        due.is("18 no hour", g.stir(64), HourGreen.BAD);
        due.is("18 no hour ahead of the porch", g.stir(96), HourGreen.BAD);
        due.is("18 stir(-1)", g.stir(-1), HourGreen.BAD);
        due.is("18 stir(MIN)", g.stir(Integer.MIN_VALUE), HourGreen.BAD);
        due.is("18 stir(MAX)", g.stir(Integer.MAX_VALUE), HourGreen.BAD);
        due.is("18 nothing is stirred", g.count(6), 0);
    }

    private static void cheap(HourGreen g, int v, int set, int stirred) {
        due.is("19 cheap(" + v + ", 0)", g.cheap(v, 0), set);
        due.is("19 cheap(" + v + ", 1)", g.cheap(v, 1), stirred);
    }

    private static void cheap() {
        HourGreen g = Due.laid("g9;g9;h0,20,0;h0,3,0;h0,5,1;h0,2,1;h0,2,1;w0,20;");
        cheap(g, 1, 2, 0);
        cheap(g, 2, 2, 0);
        cheap(g, 3, 2, 0);
        // Both of plot 0, both tops, or two of plot 1: two hours each, the lowest bits win.
        cheap(g, 4, 3, 0);
        cheap(g, 8, 3, 0);
        cheap(g, 9, 3, 0);
        cheap(g, 23, 3, 0);
        cheap(g, 24, 19, 0);
        cheap(g, 32, 31, 0);
        cheap(g, 33, HourGreen.NONE, HourGreen.NONE);
        cheap(g, 140, HourGreen.NONE, HourGreen.NONE);
        due.is("19 cheap(0, 0)", g.cheap(0, 0), HourGreen.BAD);
        due.is("19 cheap(141, 0)", g.cheap(141, 0), HourGreen.BAD);
        due.is("19 cheap(1, 2)", g.cheap(1, 2), HourGreen.BAD);
        due.is("19 cheap(1, -1)", g.cheap(1, -1), HourGreen.BAD);
        due.is("19 BAD ahead of NONE", g.cheap(140, 2), HourGreen.BAD);
        cheap(Due.laid("g9;h0,4,0;"), 4, 1, 0);
        HourGreen flat = Due.laid("g9;g9;h0,1,0;h0,1,0;h0,1,0;h0,1,1;h0,2,1;");
        // All three of plot 0 would be lower as bits, but two hours are fewer.
        cheap(flat, 3, 20, 0);
        HourGreen stirring = Due.laid("g9;h0,1,0;h0,20,0;h3,1,0;");
        // One hour alone would do, but the two on top stir none.
        cheap(stirring, 20, 6, 0);
        cheap(Due.laid("g9;w0,1;"), 1, HourGreen.NONE, HourGreen.NONE);
        HourGreen rich = Due.laid("g9;h0,20,0;h0,20,0;h0,20,0;h0,20,0;h0,20,0;h0,20,0;h0,20,0;");
        cheap(rich, 140, 127, 0);
        cheap(rich, 20, 64, 0);
        cheap(rich, 21, 96, 0);
    }

    private static void deeper(String text, int which, int much) {
        HourGreen g = Due.laid(text);
        due.is("20 deeper(0) of " + text, g.deeper(0), which);
        due.is("20 deeper(1) of " + text, g.deeper(1), much);
        due.is("20 deeper(2)", g.deeper(2), HourGreen.BAD);
        due.is("20 deeper(-1)", g.deeper(-1), HourGreen.BAD);
    }

    private static void deeper() {
        deeper("g9;w0,1;", HourGreen.NONE, HourGreen.NONE);
        deeper("g9;g9;g9;g9;g9;w0,1;", HourGreen.NONE, HourGreen.NONE);
        deeper("g9;g8;h0,1,0;", 1, 0);
        deeper("g1;g1;w1,5;", 0, 5);
        deeper("g1;g1;h3,1,0;w1,5;", 1, 5);
        deeper("g1;g1;h2,1,1;w0,5;w0,4;", 0, 9);
        deeper("g1;g2;h0,1,0;h0,2,1;w1,7;", 1, 7);
        deeper("g1;g1;h0,1,0;h0,2,1;w0,7;w1,8;", 0, 7);
        deeper("g1;g1;h0,1,0;h0,2,1;w1,8;", 0, 0);
        deeper("g1;w1,8;f0;", 0, 8);
    }

    private static void years() {
        HourGreen g = Due.laid("g9;g9;g9;h0,1,0;h2,1,0;h1,1,1;h0,1,2;w0,1;");
        int[] want = {1, 1, 2, 3, 3, 3};
        for (int n = 1; n <= want.length; n++) {
            due.is("21 years(" + n + ")", g.years(n), want[n - 1]);
        }
        due.is("21 years(20)", g.years(20), 3);
        due.is("21 years(0)", g.years(0), HourGreen.BAD);
        due.is("21 years(21)", g.years(21), HourGreen.BAD);
        due.is("21 years(-1)", g.years(-1), HourGreen.BAD);
        g.pass(1);
        due.is("21 from year 1 on", g.years(2), 1);
    }

    private static void askingChangesNothing() {
        HourGreen g = new HourGreen();
        g.out(3);
        g.behind(60, 3);
        g.packs(-1);
        g.packs(5);
        g.cheap(10, 0);
        g.deeper(0);
        g.years(20);
        g.plots(0);
        g.kinds(0);
        g.likely(3, 8, 5, 0);
        g.decade(1, 60, 0);
        int[] counts = {3, 7, 0, 5, 25, 0, 0, 0, 0, 0, 0};
        for (int what = 0; what < counts.length; what++) {
            due.is("count(" + what + ") after asking", g.count(what), counts[what]);
        }
        due.is("room after asking", g.plot(0, 0), 4);
        due.is("kind after asking", g.hour(0, 0), 0);
        due.is("place after asking", g.hour(3, 2), 1);
    }
}
