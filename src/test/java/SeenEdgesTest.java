/** The edges of what is SEEN, of chances, decades and what is KEPT, promises 22 to 30, by the document's words. */
public final class SeenEdgesTest {
    private static final Due due = new Due();
    private static final int NONE = HourGreen.NONE, NO = HourGreen.NO, FULL = HourGreen.FULL, BAD = HourGreen.BAD;

    public static void main(String[] args) {
        atMost6AreSeen();
        nothingIsSeen();
        behind0To20Years();
        inThePorchOrNot();
        byHowAllStandsWhenAsked();
        allPlotsAndNone();
        inPlaceOfWhereItIs();
        itNeedNotFit();
        allKindsAndNone();
        allLieAsTheyDo();
        likelyOf0Years();
        likelyBy0And10OfTen();
        likelyOf8Years();
        likelyInThePorch();
        likelyYearsOfItsPlot();
        decadesAsPlayed();
        decadesOf1And60Years();
        decadesChangeNothing();
        atMost2AreKept();
        nothingIsKept();
        keptIsAllButTextAndSeen();
        nothingIsUndoneThen();
        countsOfNothingAndOfAll();
        due.end();
    }

    private static HourGreen inYear(String text, int year) {
        HourGreen g = Due.laid(text);
        for (int left = year; left > 0; left -= 20) {
            g.pass(Math.min(left, 20));
        }
        return g;
    }

    private static HourGreen seen(int times) {
        HourGreen g = Due.laid("g9;g9;h0,1,0;h0,2,1;w0,3;");
        g.pass(1);
        g.keep();
        for (int i = 0; i < times; i++) {
            g.seen(i, i % 3, i % 2);
        }
        return g;
    }

    /** "SEEN (6 at most)"; "SEEN: how many. BAD; FULL." */
    private static void atMost6AreSeen() {
        HourGreen g = seen(0);
        for (int i = 1; i <= 6; i++) {
            due.is("22 seen", g.seen(0, 0, 1), i);
            due.is("30 seen", g.count(7), i);
        }
        due.is("22 the 7th", g.seen(0, 0, 1), FULL);
        due.still("22 the 7th", () -> seen(6), it -> it.seen(20, 1, 0), FULL);
        due.still("22 BAD ahead of FULL", () -> seen(6), it -> it.seen(21, 1, 0), BAD);
        due.still("22 BAD ahead of FULL", () -> seen(6), it -> it.seen(-1, 1, 0), BAD);
        due.still("22 BAD ahead of FULL", () -> seen(6), it -> it.seen(0, 3, 0), BAD);
        due.still("22 BAD ahead of FULL", () -> seen(6), it -> it.seen(0, 0, 2), BAD);
        // The 6th counts as the first does.
        HourGreen last = Due.laid("g9;g9;h0,1,0;");
        for (int i = 0; i < 5; i++) {
            last.seen(0, 0, 0);
        }
        due.is("24 five", last.plots(0), 3);
        last.seen(1, 0, 1);
        due.is("24 six", last.plots(0), 1);
        last.seen(1, 0, 0);
        due.is("24 the 7th is not there", last.plots(0), 1);
    }

    /** "Nothing is SEEN: how many were." */
    private static void nothingIsSeen() {
        due.still("23 none were", () -> seen(0), HourGreen::forget, 0);
        for (int i = 1; i <= 6; i++) {
            HourGreen g = seen(i);
            due.is("23 were", g.forget(), i);
            due.is("30 none are", g.count(7), 0);
            due.is("23 none were", g.forget(), 0);
            due.is("25 any kind", g.kinds(0), 15);
            due.is("22 one again", g.seen(0, 0, 1), 1);
        }
        HourGreen full = seen(6);
        full.forget();
        for (int i = 1; i <= 6; i++) {
            due.is("22 again", full.seen(0, 0, 1), i);
        }
        due.is("22 full again", full.seen(0, 0, 1), FULL);
    }

    /** "behind n (0 to 20) YEARS an HOUR is in the PORCH". */
    private static void behind0To20Years() {
        // Rabbits come to the last plot in years 4, 9, 14, 19: the lowest is out behind 20 years, not behind 19.
        String text = "g9;g9;g9;g9;g9;h0,1,4;h0,1,4;h0,1,4;h0,1,4;w0,1;";
        for (int n = 0; n <= 20; n++) {
            HourGreen g = Due.laid(text);
            due.is("22 seen", g.seen(n, 0, 1), 1);
            due.is("25 behind " + n, g.kinds(0), n == 20 ? 5 : 0);
            HourGreen not = Due.laid(text);
            not.seen(n, 0, 0);
            due.is("25 not behind " + n, not.kinds(0), n == 20 ? 10 : 15);
        }
        HourGreen now = Due.laid(text);
        now.seen(0, 4, 1);
        due.is("25 now", now.kinds(4), 15);
        now.seen(0, 0, 0);
        due.is("25 now", now.kinds(0), 15);
        now.seen(0, 0, 1);
        due.is("25 now", now.kinds(0), 0);
    }

    /** "is in the PORCH, or not (1, 0)". */
    private static void inThePorchOrNot() {
        for (int is = 0; is <= 1; is++) {
            HourGreen g = Due.laid("g9;h0,1,0;w0,1;");
            g.seen(0, 1, is);
            due.is("25 in the porch " + is, g.kinds(0), is == 1 ? 15 : 0);
            g.forget();
            g.seen(0, 0, is);
            due.is("25 it lies " + is, g.kinds(0), is == 0 ? 15 : 0);
        }
        due.still("22 is 2", () -> seen(1), g -> g.seen(0, 0, 2), BAD);
        due.still("22 is -1", () -> seen(1), g -> g.seen(0, 0, -1), BAD);
    }

    /** "(by how all stands when that is asked, not when it was SEEN)". */
    private static void byHowAllStandsWhenAsked() {
        HourGreen g = Due.laid("g9;g9;g9;w0,1;h1,1,0;");
        g.seen(2, 0, 1);
        for (int year = 0; year < 9; year++) {
            // Out behind two years, if it lies where rabbits come in this one or in the next.
            due.is("24 in year " + year, g.plots(0), 1 << year % 3 | 1 << (year + 1) % 3);
            g.pass(1);
        }
        HourGreen then = Due.laid("g9;h0,1,0;");
        then.seen(0, 0, 0);
        due.is("25 it lies", then.kinds(0), 15);
        then.up(0);
        due.is("25 it lies no more", then.kinds(0), 0);
        then.undo();
        due.is("25 it lies again", then.kinds(0), 15);
        due.is("22 what can't be so is taken", then.seen(0, 0, 1), 2);
    }

    /** "PLOTS of an HOUR (bits)": all if nothing is SEEN, none if nothing makes it so. */
    private static void allPlotsAndNone() {
        for (int plots = 1; plots <= 5; plots++) {
            HourGreen g = Due.laid("g1;".repeat(plots) + "h0,1,0;w0,1;");
            due.is("24 all", g.plots(0), (1 << plots) - 1);
            due.is("24 all", g.plots(1), (1 << plots) - 1);
            for (int n = 0; n <= 5; n++) {
                g.seen(n, 1, 1);
                due.is("24 out behind " + n + " of " + plots, g.plots(1), (1 << Math.min(n, plots)) - 1);
                g.forget();
            }
            g.seen(1, 1, 1);
            g.seen(1, 1, 0);
            due.is("24 none", g.plots(1), 0);
        }
        due.still("24 BAD", () -> seen(2), g -> g.plots(3), BAD);
        due.still("24 BAD", () -> seen(2), g -> g.plots(-1), BAD);
    }

    /** "were it on top there now, in place of where it is". */
    private static void inPlaceOfWhereItIs() {
        HourGreen g = Due.laid("g9;g9;h1,1,0;h0,1,0;h0,2,1;");
        // With the bad one on top of plot 0 nothing there is thrown out; away from it the plain one is.
        g.seen(3, 1, 1);
        due.is("24 the bad one elsewhere", g.plots(0), 2);
        g.forget();
        g.seen(20, 1, 0);
        due.is("24 the bad one above it", g.plots(0), 1);
        g.forget();
        g.seen(20, 2, 0);
        due.is("24 the bad one above the other", g.plots(0), 2);
        g.forget();
        // On top of its own plot it keeps its place.
        g.seen(1, 1, 1);
        due.is("24 where it is", g.plots(1), 1);
        due.is("24 nothing has moved", g.hour(0, 3), 0);
        due.is("24 nothing is stirred", g.count(6), 0);
    }

    /** "(it need not FIT)". */
    private static void itNeedNotFit() {
        HourGreen g = Due.laid("g1;g1;h0,1,0;h3,1,1;w1,1;w0,1;");
        due.is("8 it does not fit", g.fits(2, 0) + g.fits(2, 1), 0);
        g.seen(20, 2, 0);
        due.is("24 a bad one stays", g.plots(2), 3);
        g.forget();
        g.seen(2, 3, 1);
        due.is("24 thrown from a full one, from a stoned one", g.plots(3), 3);
        g.forget();
        g.seen(20, 0, 0);
        due.is("24 beneath a bad one in a full plot", g.plots(2), 1);
        HourGreen frost = Due.laid("g1;w0,1;f0;");
        frost.seen(1, 0, 1);
        due.is("24 in frost", frost.plots(0), 1);
    }

    /** "KINDS of one (bits of 0 to 3)": all if nothing is SEEN, none if nothing makes it so. */
    private static void allKindsAndNone() {
        HourGreen g = Due.laid("g9;h1,1,0;w3,1;");
        due.is("25 all", g.kinds(0), 15);
        due.is("25 all", g.kinds(1), 15);
        g.seen(1, 0, 1);
        due.is("25 plain or poor", g.kinds(0), 5);
        g.forget();
        g.seen(1, 0, 0);
        due.is("25 bad or stoned", g.kinds(0), 10);
        g.seen(20, 0, 1);
        due.is("25 none", g.kinds(0), 0);
        due.still("25 BAD", () -> seen(2), it -> it.kinds(3), BAD);
        due.still("25 BAD", () -> seen(2), it -> it.kinds(-1), BAD);
    }

    /** "in place of its own, by which all that is SEEN would be so (all lie as they do)". */
    private static void allLieAsTheyDo() {
        // Of another kind all would not fit, or lie above a stoned one: they lie as they do.
        HourGreen g = Due.laid("g2;h2,1,0;h2,1,0;h2,1,0;h0,1,0;");
        g.seen(3, 1, 1);
        due.is("25 beneath others", g.kinds(1), 5);
        g.forget();
        g.seen(3, 1, 0);
        due.is("25 beneath others", g.kinds(1), 10);
        due.is("25 the lowest", g.kinds(0), 0);
        g.forget();
        g.seen(3, 1, 1);
        g.seen(3, 0, 0);
        due.is("25 the lowest", g.kinds(0), 15);
        g.seen(4, 0, 0);
        due.is("25 the lowest stays", g.kinds(0), 10);
        due.is("25 no kind is another", g.hour(0, 0), 2);
    }

    private static void likely(HourGreen g, int h, int n, int x, int upper, int lower) {
        String call = "26 likely(" + h + ", " + n + ", " + x + ", ";
        due.is(call + "0)", g.likely(h, n, x, 0), upper);
        due.is(call + "1)", g.likely(h, n, x, 1), lower);
    }

    /** "(1 by 1, if n is 0)". */
    private static void likelyOf0Years() {
        for (int kind = 0; kind <= 3; kind++) {
            for (int x = 0; x <= 10; x++) {
                likely(Due.laid("g9;h" + kind + ",1,0;"), 0, 0, x, 1, 1);
            }
        }
    }

    /** "in each rabbits come by x (0 to 10) of ten". */
    private static void likelyBy0And10OfTen() {
        int[][] terms = {{1, 1}, {9, 10}, {4, 5}, {7, 10}, {3, 5}, {1, 2}, {2, 5}, {3, 10}, {1, 5}, {1, 10}, {0, 1}};
        HourGreen g = Due.laid("g9;h0,1,0;");
        for (int x = 0; x <= 10; x++) {
            likely(g, 0, 1, x, terms[x][0], terms[x][1]);
        }
        for (int n = 1; n <= 8; n++) {
            likely(g, 0, n, 0, 1, 1);
            likely(g, 0, n, 10, 0, 1);
        }
        due.still("26 x 11", () -> seen(2), it -> it.likely(1, 1, 11, 0), BAD);
        due.still("26 x -1", () -> seen(2), it -> it.likely(1, 1, -1, 0), BAD);
    }

    /** "n (0 to 8) YEARS", "in lowest terms". */
    private static void likelyOf8Years() {
        HourGreen g = Due.laid("g9;h0,1,0;");
        int ten = 1;
        int nine = 1;
        for (int n = 0; n <= 8; n++) {
            likely(g, 0, n, 1, nine, ten);
            likely(g, 0, n, 9, 1, ten);
            likely(g, 0, n, 5, 1, 1 << n);
            ten *= 10;
            nine *= 9;
        }
        HourGreen seven = Due.laid("g9;" + "h0,1,0;".repeat(7));
        for (int h = 0; h < 7; h++) {
            // It is thrown out by the visit that is one more than those above it.
            for (int n = 0; n <= 8; n++) {
                likely(seven, h, n, 10, n <= 6 - h ? 1 : 0, 1);
            }
        }
        likely(seven, 0, 7, 9, 10000000 - 4782969, 10000000);
        due.still("26 n 9", () -> seen(2), it -> it.likely(1, 9, 1, 0), BAD);
        due.still("26 n -1", () -> seen(2), it -> it.likely(1, -1, 1, 0), BAD);
        due.still("26 part 2", () -> seen(2), it -> it.likely(1, 1, 1, 2), BAD);
        due.still("26 part -1", () -> seen(2), it -> it.likely(1, 1, 1, -1), BAD);
    }

    /** "LIKELY for an HOUR that lies"; "BAD; NO: it is in the PORCH." */
    private static void likelyInThePorch() {
        for (int n = 0; n <= 8; n++) {
            int years = n;
            due.still("26 in the porch", () -> seen(2), g -> g.likely(2, years, 0, 0), NO);
            due.still("26 in the porch", () -> seen(2), g -> g.likely(0, years, 10, 1), NO);
        }
        due.still("26 BAD ahead of NO", () -> seen(2), g -> g.likely(2, 9, 0, 0), BAD);
        due.still("26 BAD ahead of NO", () -> seen(2), g -> g.likely(2, 0, 11, 0), BAD);
        due.still("26 BAD ahead of NO", () -> seen(2), g -> g.likely(2, 0, 0, 2), BAD);
        due.still("26 no hour", () -> seen(2), g -> g.likely(3, 0, 0, 0), BAD);
    }

    /** "By a YEAR rabbits are in PLOT (the YEAR modulo ..)", "for itself": those of other PLOTS are no matter. */
    private static void likelyYearsOfItsPlot() {
        for (int plots = 1; plots <= 5; plots++) {
            for (int p = 0; p < plots; p++) {
                HourGreen g = Due.laid("g9;".repeat(plots) + "h0,1," + p + ";");
                for (int n = 0; n <= 8; n++) {
                    int visits = 0;
                    for (int year = 0; year < n; year++) {
                        visits += year % plots == p ? 1 : 0;
                    }
                    likely(g, 0, n, 5, 1, 1 << visits);
                }
            }
        }
        HourGreen late = inYear("g9;g9;g9;g9;g9;w0,1;w0,2;", 999);
        late.put(0, 4);
        late.put(1, 3);
        likely(late, 0, 1, 10, 0, 1);
        likely(late, 1, 4, 10, 1, 1);
        likely(late, 1, 5, 10, 0, 1);
    }

    private static int draw(int z, int year) {
        long x = 7919L * z + 6151L * year + 1;
        return (int) (x * x % 65521) / 2;
    }

    /** "A DECADE by z (0 to 9999) of n (1 to 60) YEARS from now on", played with the acts themselves. */
    private static void decadesAsPlayed() {
        String[] texts = {"g1;w0,1;", "g9;h1,1,0;h1,2,0;h1,3,0;", "g2;g2;h2,1,0;h2,2,0;w3,4;w1,8;f0;f1;f2;f5;",
            "g4;g3;g5;h0,3,0;h1,7,0;h2,2,1;h2,4,1;h3,9,2;w0,5;w1,6;f2;", "g1;g2;g3;g4;g5;" + "w1,20;".repeat(7)};
        int[] draws = {0, 1, 2, 63, 64, 4999, 8191, 9998, 9999};
        int[] years = {1, 2, 59, 60};
        for (String text : texts) {
            for (int z : draws) {
                for (int n : years) {
                    decadeAsPlayed(text, z, n, 0);
                    decadeAsPlayed(text, z, n, 39);
                }
                decadeAsPlayed(text, z, 60, 939);
            }
        }
    }

    private static void decadeAsPlayed(String text, int z, int n, int from) {
        HourGreen g = inYear(text, from);
        HourGreen asked = inYear(text, from);
        for (int year = 0; year < n; year++) {
            int draw = draw(z, year);
            int h = draw % g.count(1);
            if (g.hour(h, 2) == NONE) {
                g.put(h, draw / 8 % g.count(0));
            } else if (draw / 64 % 4 == 0) {
                g.up(h);
            }
            g.pass(1);
        }
        String call = "27 decade(" + z + ", " + n + ") in " + from + " of " + text + " ";
        due.is(call + "0", asked.decade(z, n, 0), g.count(3));
        due.is(call + "1", asked.decade(z, n, 1), g.count(4));
        due.is(call + "2", asked.decade(z, n, 2), g.count(6));
    }

    /** "n (1 to 60) YEARS": the first and the last YEAR count. */
    private static void decadesOf1And60Years() {
        // Draw 0 of year 0: hour 0 goes into plot 0; year 0 is one of rabbits there.
        due.is("27 of 1", Due.laid("g9;w1,5;").decade(0, 1, 1), 5);
        due.is("27 of 1", Due.laid("g9;w0,5;").decade(0, 1, 1), 0);
        due.is("27 of 1", Due.laid("g9;h1,5,0;h1,6,0;").decade(0, 1, 2), 1);
        for (int n : new int[] {0, -1, 61, 100}) {
            due.still("27 n " + n, () -> seen(2), g -> g.decade(0, n, 0), BAD);
        }
        for (int z : new int[] {-1, 10000}) {
            due.still("27 z " + z, () -> seen(2), g -> g.decade(z, 1, 0), BAD);
        }
        for (int what : new int[] {-1, 3}) {
            due.still("27 what " + what, () -> seen(2), g -> g.decade(0, 1, what), BAD);
        }
        // Beyond the last year that may go by: 60 years from 999 on.
        due.is("27 beyond 999", inYear("g9;w1,5;", 999).decade(0, 1, 1), 5);
        due.is("27 beyond 999", inYear("g9;h3,5,0;w0,1;w0,2;", 999).decade(1, 1, 1), 5);
    }

    /** "(nothing changes by it)"; "how many were STIRRED in it". */
    private static void decadesChangeNothing() {
        for (int what = 0; what <= 2; what++) {
            int it = what;
            int want = stirred().decade(9999, 60, it);
            due.still("27 what " + what, SeenEdgesTest::stirred, g -> g.decade(9999, 60, it), want);
        }
        HourGreen g = stirred();
        due.is("30 stirred ahead of it", g.count(6), 3);
        due.is("27 stirred in it", g.decade(0, 1, 2), 0);
        due.is("30 stirred still", g.count(6), 3);
    }

    private static HourGreen stirred() {
        HourGreen g = Due.laid("g9;g9;h1,1,0;h1,2,0;h1,3,0;h0,4,0;w0,5;");
        g.keep();
        g.up(0);
        g.seen(3, 1, 1);
        return g;
    }

    private static HourGreen kept(int times) {
        HourGreen g = Due.laid("g4;g9;h0,1,0;h0,2,0;h1,3,1;w0,4;f3;");
        for (int i = 0; i < times; i++) {
            g.pass(1);
            g.keep();
        }
        g.up(2);
        g.seen(1, 1, 1);
        return g;
    }

    /** "2 at most"; "KEPT: how many. FULL." */
    private static void atMost2AreKept() {
        HourGreen g = new HourGreen();
        due.is("28 keep", g.keep(), 1);
        due.is("28 keep", g.keep(), 2);
        due.is("28 the 3rd", g.keep(), FULL);
        due.is("30 kept", g.count(9), 2);
        due.still("28 the 3rd", () -> kept(2), HourGreen::keep, FULL);
        HourGreen again = kept(2);
        due.is("29 back", again.back(), 1);
        due.is("28 keep again", again.keep(), 2);
        due.is("28 full again", again.keep(), FULL);
    }

    /** "As KEPT last (it is KEPT no more then): how many are left ..NO." */
    private static void nothingIsKept() {
        due.still("29 a new object", HourGreen::new, HourGreen::back, NO);
        due.still("29 none kept", () -> kept(0), HourGreen::back, NO);
        HourGreen g = kept(2);
        due.is("29 back", g.back(), 1);
        due.is("29 the last one", g.count(2), 2);
        due.is("29 back", g.back(), 0);
        due.is("29 the first one", g.count(2), 1);
        due.is("29 none left", g.back(), NO);
        due.is("29 none left", g.back(), NO);
        due.is("29 as it was", g.count(2), 1);
        HourGreen acts = kept(1);
        acts.back();
        acts.pass(2);
        due.is("29 NO", acts.back(), NO);
        due.is("29 a refused one leaves what can be undone", acts.count(8), 1);
        due.is("29 a refused one leaves the year", acts.count(2), 3);
    }

    /** "KEPT is all as it stands, but THE TEXT and what is SEEN". */
    private static void keptIsAllButTextAndSeen() {
        HourGreen g = Due.laid("g4;g9;h0,1,0;h0,2,0;h0,3,0;w0,4;f3;");
        g.up(0);
        g.pass(3);
        g.keep();
        int textThen = g.count(10);
        g.dig(0);
        g.pass(1);
        g.put(0, 1);
        g.put(3, 1);
        g.up(0);
        g.seen(1, 1, 1);
        g.write('x');
        due.is("29 back", g.back(), 0);
        int[] counts = {2, 4, 3, 0, 0, 1, 2, 1, 0, 0, textThen + 1};
        for (int what = 0; what < counts.length; what++) {
            due.is("29 count(" + what + ")", g.count(what), counts[what]);
        }
        due.is("29 room", g.plot(0, 0), 4);
        due.is("29 in the porch", g.hour(3, 2), NONE);
        g.forget();
        g.wipe();
        g.keep();
        g.seen(1, 1, 1);
        g.seen(1, 1, 1);
        g.write('y');
        g.back();
        due.is("29 what is seen stays", g.count(7), 2);
        due.is("29 what is written stays", g.count(10), 1);
    }

    /** "nothing is UNDONE then". */
    private static void nothingIsUndoneThen() {
        HourGreen g = Due.laid("g9;w0,1;");
        for (int i = 0; i < 9; i++) {
            g.pass(1);
        }
        g.keep();
        due.is("28 keep leaves what can be undone", g.count(8), 8);
        due.is("13 undo", g.undo(), 7);
        due.is("29 back", g.back(), 0);
        due.is("30 year", g.count(2), 9);
        due.is("30 none can be undone", g.count(8), 0);
        due.is("13 undo", g.undo(), NO);
        g.pass(1);
        due.is("13 what comes then", g.undo(), 0);
        due.is("30 year", g.count(2), 9);
    }

    /** "How many: 0 PLOTS, 1 HOURS, 2 the YEAR, 3 HOURS that lie, 4 what they are WORTH, .. BAD." */
    private static void countsOfNothingAndOfAll() {
        int[] least = {1, 1, 0, 0, 0, 0, 0, 0, 0, 0, 8};
        HourGreen small = Due.laid("g1;w0,1;");
        HourGreen large = inYear("g9;g9;g9;g9;g9;" + "h3,20,0;h1,20,1;h1,20,1;h1,20,1;h1,20,1;h1,20,2;h1,20,3;", 999);
        for (int i = 0; i < 6; i++) {
            large.seen(0, 0, 0);
            large.keep();
        }
        int[] most = {5, 7, 999, 7, 140, 0, 0, 6, 8, 2, 71};
        for (int what = 0; what <= 10; what++) {
            due.is("30 count(" + what + ") of little", small.count(what), least[what]);
            due.is("30 count(" + what + ") of much", large.count(what), most[what]);
        }
        due.still("30 count(-1)", () -> kept(1), g -> g.count(-1), BAD);
        due.still("30 count(11)", () -> kept(1), g -> g.count(11), BAD);
    }
}
