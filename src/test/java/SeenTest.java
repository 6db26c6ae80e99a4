/** Promises 22 to 25: what was seen, and what it tells. */
public final class SeenTest {
    private static final Due due = new Due();

    public static void main(String[] args) {
        seen();
        forget();
        plots();
        plotsNeedNoRoom();
        kinds();
        askedAsAllStandsNow();
        due.end();
    }

    private static void seen() {
        HourGreen g = new HourGreen();
        due.is("22 seen(-1, 0, 0)", g.seen(-1, 0, 0), HourGreen.BAD);
        due.is("22 seen(21, 0, 0)", g.seen(21, 0, 0), HourGreen.BAD);
        due.is("22 seen(0, -1, 0)", g.seen(0, -1, 0), HourGreen.BAD);
        due.is("22 seen(0, 7, 0)", g.seen(0, 7, 0), HourGreen.BAD);
        due.is("22 seen(0, 0, -1)", g.seen(0, 0, -1), HourGreen.BAD);
        due.is("22 seen(0, 0, 2)", g.seen(0, 0, 2), HourGreen.BAD);
        due.is("22 none yet", g.count(7), 0);
        due.is("22 seen(0, 0, 0)", g.seen(0, 0, 0), 1);
        due.is("22 seen(20, 6, 1)", g.seen(20, 6, 1), 2);
        for (int i = 3; i <= 6; i++) {
            due.is("22 the same once more", g.seen(0, 0, 0), i);
        }
        due.is("22 a seventh", g.seen(0, 0, 0), HourGreen.FULL);
        due.is("22 BAD ahead of FULL", g.seen(21, 0, 0), HourGreen.BAD);
        due.is("22 six", g.count(7), 6);
    }

    private static void forget() {
        HourGreen g = new HourGreen();
        due.is("23 nothing", g.forget(), 0);
        g.seen(0, 0, 1);
        g.seen(0, 0, 0);
        due.is("23 against one another", g.plots(0), 0);
        due.is("23 forget", g.forget(), 2);
        due.is("23 none", g.count(7), 0);
        due.is("23 all may be", g.plots(0), 7);
        due.is("23 seen again", g.seen(0, 0, 0), 1);
    }

    private static void plots() {
        HourGreen g = Due.laid("g9;g9;g9;g9;h0,1,0;h0,2,0;h1,3,1;w2,4;");
        due.is("24 nothing seen", g.plots(0), 15);
        due.is("24 plots(-1)", g.plots(-1), HourGreen.BAD);
        due.is("24 plots(4)", g.plots(4), HourGreen.BAD);
        g.seen(3, 0, 1);
        due.is("24 out by year 3", g.plots(0), 7);
        g.seen(1, 0, 0);
        due.is("24 not out by year 1", g.plots(0), 6);
        g.seen(1, 1, 1);
        due.is("24 what was above it comes out too", g.plots(0), 6);
        due.is("24 no place for another makes it so", g.plots(3), 0);
        g.forget();
        // The poor one keeps the rabbits of the first year from what lies beneath it.
        g.seen(1, 1, 0);
        due.is("24 one from the porch on top", g.plots(3), 1);
        due.is("24 a bad one on top", g.plots(2), 1);
        g.forget();
        g.seen(0, 3, 0);
        due.is("24 now it lies", g.plots(3), 15);
        due.is("24 it is in the porch", g.plots(0), 0);
        g.forget();
        g.seen(20, 3, 1);
        due.is("24 behind 20 years", g.plots(3), 15);
        due.is("24 nothing has moved", g.hour(3, 2), HourGreen.NONE);
    }

    private static void plotsNeedNoRoom() {
        HourGreen g = Due.laid("g1;g1;h0,1,0;h3,2,1;w1,3;");
        g.seen(20, 0, 0);
        due.is("24 it need not fit", g.plots(2), 1);
        due.is("24 above a stoned one", g.plots(0), 0);
        g.forget();
        g.seen(2, 0, 1);
        due.is("24 thrown from above a stoned one", g.plots(0), 3);
    }

    private static void kinds() {
        HourGreen g = Due.laid("g4;g1;h0,1,0;h0,2,0;h1,3,0;w0,4;");
        due.is("25 nothing seen", g.kinds(0), 15);
        due.is("25 kinds(-1)", g.kinds(-1), HourGreen.BAD);
        due.is("25 kinds(4)", g.kinds(4), HourGreen.BAD);
        g.seen(1, 2, 1);
        due.is("25 it comes out", g.kinds(2), 5);
        due.is("25 of another kind another stays", g.kinds(0), 0);
        g.forget();
        g.seen(1, 2, 0);
        due.is("25 it stays", g.kinds(2), 10);
        due.is("25 it stays whatever another is", g.kinds(0), 15);
        g.forget();
        g.seen(5, 0, 1);
        due.is("25 what lies beneath comes out", g.kinds(2), 5);
        g.forget();
        g.seen(4, 0, 1);
        due.is("25 not as soon", g.kinds(2), 0);
        g.forget();
        g.seen(0, 3, 1);
        due.is("25 in the porch of any kind", g.kinds(3), 15);
        due.is("25 no kind is changed", g.hour(2, 0), 1);
    }

    private static void askedAsAllStandsNow() {
        HourGreen g = Due.laid("g9;g9;h0,1,0;h0,2,1;");
        g.seen(1, 0, 1);
        due.is("25 rabbits come there first", g.kinds(0), 5);
        g.pass(1);
        due.is("25 in the porch it is so", g.kinds(0), 15);
        due.is("24 in year 1", g.plots(0), 2);
        g.undo();
        due.is("24 in year 0", g.plots(0), 1);
        due.is("24 undo leaves what is seen", g.count(7), 1);
        g.keep();
        g.back();
        due.is("24 back leaves what is seen", g.count(7), 1);
    }
}
