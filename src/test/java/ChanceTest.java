/** Promises 26 and 27: chances and decades. */
public final class ChanceTest {
    private static final Due due = new Due();

    public static void main(String[] args) {
        likely();
        likelyBeneathOthers();
        likelyWrong();
        decadeByHand();
        decadeWrong();
        due.end();
    }

    private static void likely(HourGreen g, int h, int n, int x, int upper, int lower) {
        String call = "26 likely(" + h + ", " + n + ", " + x + ", ";
        due.is(call + "0)", g.likely(h, n, x, 0), upper);
        due.is(call + "1)", g.likely(h, n, x, 1), lower);
    }

    private static void likely() {
        HourGreen g = Due.laid("g9;h0,1,0;");
        likely(g, 0, 0, 10, 1, 1);
        likely(g, 0, 8, 0, 1, 1);
        likely(g, 0, 1, 10, 0, 1);
        likely(g, 0, 8, 10, 0, 1);
        likely(g, 0, 1, 4, 3, 5);
        likely(g, 0, 1, 3, 7, 10);
        likely(g, 0, 2, 5, 1, 4);
        likely(g, 0, 8, 1, 43046721, 100000000);
        likely(g, 0, 8, 9, 1, 100000000);
        likely(Due.laid("g9;h2,1,0;"), 0, 1, 4, 3, 5);
        likely(Due.laid("g9;h1,1,0;"), 0, 8, 10, 1, 1);
        likely(Due.laid("g9;h3,1,0;"), 0, 8, 10, 1, 1);
        HourGreen two = Due.laid("g9;g9;h0,1,1;");
        likely(two, 0, 1, 10, 1, 1);
        likely(two, 0, 2, 10, 0, 1);
        two.pass(2);
        likely(two, 0, 8, 5, HourGreen.NO, HourGreen.NO);
        HourGreen later = Due.laid("g9;g9;h0,1,0;h1,2,0;");
        later.pass(1);
        later.up(1);
        likely(later, 0, 1, 10, 1, 1);
        likely(later, 0, 8, 5, 1, 16);
    }

    private static void likelyBeneathOthers() {
        HourGreen g = Due.laid("g9;h0,1,0;h2,1,0;h0,1,0;");
        likely(g, 0, 2, 10, 1, 1);
        likely(g, 0, 3, 10, 0, 1);
        likely(g, 0, 3, 5, 7, 8);
        likely(g, 1, 3, 5, 1, 2);
        likely(g, 2, 3, 5, 1, 8);
        likely(g, 0, 8, 5, 37, 256);
        likely(Due.laid("g9;h0,1,0;h1,1,0;h0,1,0;"), 0, 8, 10, 1, 1);
        likely(Due.laid("g9;h1,1,0;h0,1,0;"), 0, 8, 10, 1, 1);
        HourGreen seven = Due.laid("g9;h0,1,0;h0,1,0;h0,1,0;h0,1,0;h0,1,0;h0,1,0;h0,1,0;");
        likely(seven, 0, 6, 10, 1, 1);
        likely(seven, 0, 7, 10, 0, 1);
        likely(seven, 0, 7, 1, 9999999, 10000000);
        likely(seven, 0, 8, 1, 99999927, 100000000);
        likely(seven, 0, 8, 5, 247, 256);
    }

    private static void likelyWrong() {
        HourGreen g = Due.laid("g9;h0,1,0;w0,1;");
        int bad = HourGreen.BAD;
        due.is("26 h -1", g.likely(-1, 1, 1, 0), bad);
        due.is("26 h 2", g.likely(2, 1, 1, 0), bad);
        due.is("26 n -1", g.likely(0, -1, 1, 0), bad);
        due.is("26 n 9", g.likely(0, 9, 1, 0), bad);
        due.is("26 x -1", g.likely(0, 1, -1, 0), bad);
        due.is("26 x 11", g.likely(0, 1, 11, 0), bad);
        due.is("26 part -1", g.likely(0, 1, 1, -1), bad);
        due.is("26 part 2", g.likely(0, 1, 1, 2), bad);
        due.is("26 in the porch", g.likely(1, 0, 1, 0), HourGreen.NO);
        due.is("26 BAD ahead of NO", g.likely(1, 9, 1, 0), bad);
        due.is("26 BAD ahead of NO", g.likely(1, 1, 1, 2), bad);
    }

    private static void decadeByHand() {
        // Draw 0: hour 0, plot 0; it lies and 0 by 64 modulo 4 is 0, so it is had up from beneath hour 1.
        HourGreen g = Due.laid("g9;g9;h1,7,0;h1,9,0;h1,11,1;");
        due.is("27 two lie", g.decade(0, 1, 0), 2);
        due.is("27 worth", g.decade(0, 1, 1), 20);
        due.is("27 stirred", g.decade(0, 1, 2), 1);
        due.is("27 nothing is stirred by it", g.count(6), 0);
        due.is("27 no year goes by", g.count(2), 0);
        // Draw 0 puts hour 0 in plot 0, where rabbits come in the same year but for a bad one.
        due.is("27 put in and thrown out", Due.laid("g9;g9;w0,7;").decade(0, 1, 0), 0);
        due.is("27 put in and left", Due.laid("g9;g9;w1,7;").decade(0, 1, 1), 7);
        due.is("27 frost", Due.laid("g9;g9;w1,7;f0;").decade(0, 1, 0), 0);
        due.is("27 no room", Due.laid("g1;g9;w1,7;").decade(0, 1, 0), 0);
        HourGreen later = Due.laid("g9;g9;w1,7;f0;");
        later.pass(1);
        due.is("27 draws begin anew, years do not", later.decade(0, 1, 0), 1);
        // Second year: x 6152, squared 37847104, modulo 65521 is 41487, by 2 is 20743: hour 20743 mod 2 is 1,
        // 20743 by 8 is 2592, plot 0; it is put in above hour 0.
        due.is("27 two years", Due.laid("g9;g9;w1,7;w1,5;").decade(0, 2, 1), 12);
        // z 1: x 7920, squared 62726400, modulo 65521 is 22803, by 2 is 11401: hour 1 of 3, plot 1425 mod 2.
        HourGreen one = Due.laid("g9;g9;w1,7;w1,5;w1,3;");
        due.is("27 z 1", one.decade(1, 1, 1), 5);
        // It lies, and 11401 by 64 is 178, modulo 4 is 2: it is left.
        due.is("27 not had up", Due.laid("g9;h1,7,0;h1,5,0;h1,3,0;").decade(1, 1, 2), 0);
        due.is("27 one year is one", Due.laid("g9;g9;h1,3,0;h0,7,1;").decade(1, 1, 0), 2);
        due.is("27 one plot", Due.laid("g9;w1,7;").decade(1, 1, 0), 1);
        // 11401 by 8 is 1425, plot 0 of 5, where rabbits are.
        due.is("27 the plot", Due.laid("g9;g9;g9;g9;g9;w0,7;").decade(1, 1, 0), 0);
        // z 8: x 63353, squared 4013602609, modulo 65521 is 48233, by 2 is 24116: hour 0 of 2; by 64 is 376.
        HourGreen two = Due.laid("g9;h1,7,0;h1,5,0;");
        due.is("27 z 8", two.decade(8, 1, 1), 5);
        due.is("27 z 8", two.decade(8, 1, 2), 1);
        // z 9999: x 79182082, squared 6269802109854724, modulo 65521 is 51303, by 2 is 25651: hour 1; by 64 is 400.
        due.is("27 z 9999", two.decade(9999, 1, 1), 7);
        due.is("27 z 9999", two.decade(9999, 1, 2), 0);
        HourGreen stirred = Due.laid("g9;h1,7,0;h1,5,0;h1,3,0;");
        stirred.up(0);
        due.is("27 stirred ahead of it", stirred.decade(1, 1, 2), 0);
    }

    private static void decadeWrong() {
        HourGreen g = new HourGreen();
        int bad = HourGreen.BAD;
        due.is("27 z -1", g.decade(-1, 1, 0), bad);
        due.is("27 z 10000", g.decade(10000, 1, 0), bad);
        due.is("27 n 0", g.decade(0, 0, 0), bad);
        due.is("27 n 61", g.decade(0, 61, 0), bad);
        due.is("27 what -1", g.decade(0, 1, -1), bad);
        due.is("27 what 3", g.decade(0, 1, 3), bad);
        HourGreen last = Due.laid("g1;w1,1;");
        for (int i = 0; i < 49; i++) {
            last.pass(20);
        }
        last.pass(19);
        due.is("27 beyond the last year", last.decade(9999, 60, 0), 0);
    }
}
