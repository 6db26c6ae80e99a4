/** Promises 1 to 8: texts, faults, what lies where. */
public final class GreensTest {
    private static final Due due = new Due();

    public static void main(String[] args) {
        aNewObject();
        write();
        wipe();
        faultOfItems();
        faultOfLimits();
        faultOfRoom();
        lay();
        layClearsAll();
        layAfterAsking();
        plot();
        hour();
        fits();
        due.end();
    }

    private static void aNewObject() {
        HourGreen g = new HourGreen();
        int[] counts = {3, 7, 0, 5, 25, 0, 0, 0, 0, 0, 0};
        for (int what = 0; what < counts.length; what++) {
            due.is("1 count(" + what + ")", g.count(what), counts[what]);
        }
        int[] rooms = {4, 3, 5};
        for (int p = 0; p < 3; p++) {
            due.is("1 room", g.plot(p, 0), rooms[p]);
        }
        int[] kinds = {0, 1, 2, 2, 3, 0, 1};
        int[] worths = {3, 7, 2, 4, 9, 5, 6};
        int[] places = {0, 0, 1, 1, 2, -4, -4};
        for (int h = 0; h < 7; h++) {
            due.is("1 kind of " + h, g.hour(h, 0), kinds[h]);
            due.is("1 worth of " + h, g.hour(h, 1), worths[h]);
            due.is("1 place of " + h, g.hour(h, 2), places[h]);
        }
        g.pass(2);
        due.is("1 frost in year 2", g.count(5), 1);
        due.is("1 no text to lay", new HourGreen().lay(), HourGreen.NO);
        due.is("1 nothing to undo", new HourGreen().undo(), HourGreen.NO);
        due.is("1 nothing kept", new HourGreen().back(), HourGreen.NO);
    }

    private static void write() {
        HourGreen g = new HourGreen();
        due.is("2 write(31)", g.write(31), HourGreen.BAD);
        due.is("2 write(127)", g.write(127), HourGreen.BAD);
        due.is("2 write(-1)", g.write(-1), HourGreen.BAD);
        due.is("2 write(65536 + 103)", g.write(65536 + 103), HourGreen.BAD);
        due.is("2 write(MIN)", g.write(Integer.MIN_VALUE), HourGreen.BAD);
        due.is("2 write(MAX)", g.write(Integer.MAX_VALUE), HourGreen.BAD);
        due.is("2 length", g.count(10), 0);
        due.is("2 write(32)", g.write(32), 1);
        due.is("2 write(126)", g.write(126), 2);
        for (int i = 3; i <= 200; i++) {
            due.is("2 write", g.write('x'), i);
        }
        due.is("2 write beyond 200", g.write('x'), HourGreen.FULL);
        due.is("2 BAD ahead of FULL", g.write(31), HourGreen.BAD);
        due.is("2 length", g.count(10), 200);
    }

    private static void wipe() {
        HourGreen g = new HourGreen();
        due.is("3 wipe", g.wipe(), 0);
        Due.write(g, "g4;");
        due.is("3 wipe", g.wipe(), 3);
        due.is("3 length", g.count(10), 0);
        due.is("3 wipe again", g.wipe(), 0);
        due.is("3 the green stays", g.count(1), 7);
        for (int i = 0; i < 200; i++) {
            g.write('g');
        }
        due.is("3 wipe of 200", g.wipe(), 200);
        due.is("3 write then", g.write('g'), 1);
    }

    private static void fault(String text, int want) {
        due.is("4 fault of " + text, Due.faultOf(text), want);
    }

    private static void faultOfItems() {
        fault("", HourGreen.NONE);
        fault("g4;g3;g5;h0,3,0;h1,7,0;h2,2,1;h2,4,1;h3,9,2;w0,5;w1,6;f2;", HourGreen.NONE);
        fault("w0,1;", HourGreen.NONE);
        fault("f0;f39;f0;f39;", HourGreen.NONE);
        fault("g09;h00,01,00;w03,20;f07;", HourGreen.NONE);
        fault("g4", 0);
        fault("g", 0);
        fault("g;", 0);
        fault(";", 0);
        fault("G4;", 0);
        fault("x4;", 0);
        fault(" g4;", 0);
        fault("g4; w0,1;", 3);
        fault("g 4;", 0);
        fault("g4,", 0);
        fault("g4,1;", 0);
        fault("g004;", 0);
        fault("g-1;", 0);
        fault("w0;", 0);
        fault("w0,;", 0);
        fault("w,1;", 0);
        fault("w0,1,;", 0);
        fault("w0,1,0;", 0);
        fault("w0;1;", 0);
        fault("w0,001;", 0);
        fault("w000,1;", 0);
        fault("g4;h0,1;", 3);
        fault("g4;h0,1,;", 3);
        fault("g4;h0,1,0,0;", 3);
        fault("g4;h0,1,0", 3);
        fault("g4;h0,1,0;h", 10);
        fault("g4;;", 3);
        fault("g4;x;y;", 3);
    }

    private static void faultOfLimits() {
        fault("g1;", HourGreen.NONE);
        fault("g9;", HourGreen.NONE);
        fault("g0;", 0);
        fault("g00;", 0);
        fault("g10;", 0);
        fault("g1;g1;g1;g1;g1;", HourGreen.NONE);
        fault("g1;g1;g1;g1;g1;g1;", 15);
        fault("w3,20;", HourGreen.NONE);
        fault("w4,1;", 0);
        fault("w10,1;", 0);
        fault("w0,0;", 0);
        fault("w0,21;", 0);
        fault("f40;", 0);
        fault("f99;", 0);
        fault("g9;h4,1,0;", 3);
        fault("g9;h0,0,0;", 3);
        fault("g9;h0,21,0;", 3);
        fault("g9;h0,20,0;", HourGreen.NONE);
        fault("g9;h0,1,1;", 3);
        fault("g9;h0,1,1;g9;", 3);
        fault("h0,1,0;g9;", 0);
        fault("g9;h0,1,0;h0,1,0;h0,1,0;h0,1,0;h0,1,0;h0,1,0;h0,1,0;", HourGreen.NONE);
        fault("g9;h0,1,0;h0,1,0;h0,1,0;h0,1,0;h0,1,0;h0,1,0;h0,1,0;h0,1,0;", 52);
        fault("w0,1;w0,1;w0,1;w0,1;w0,1;w0,1;w0,1;", HourGreen.NONE);
        fault("w0,1;w0,1;w0,1;w0,1;w0,1;w0,1;w0,1;w0,1;", 35);
        fault("g9;h0,1,0;h0,1,0;h0,1,0;w0,1;w0,1;w0,1;w0,1;w0,1;", 44);
        fault("g9;w0,1;w0,1;w0,1;w0,1;h0,1,0;h0,1,0;h0,1,0;h0,1,0;", 44);
    }

    private static void faultOfRoom() {
        fault("g1;h0,1,0;h0,1,0;", 10);
        fault("g1;h1,1,0;", 3);
        fault("g2;h1,1,0;", HourGreen.NONE);
        fault("g1;h2,1,0;h2,1,0;h2,1,0;", HourGreen.NONE);
        fault("g1;h2,1,0;h2,1,0;h0,1,0;", 17);
        fault("g2;h2,1,0;h0,1,0;h2,1,0;", 17);
        fault("g3;h2,1,0;h0,1,0;h2,1,0;h2,1,0;", HourGreen.NONE);
        fault("g9;h3,1,0;h0,1,0;", 10);
        fault("g9;h3,1,0;h2,1,0;", 10);
        fault("g9;h3,1,0;h3,1,0;", 10);
        fault("g9;h0,1,0;h3,1,0;", HourGreen.NONE);
        fault("g1;g9;h0,1,0;h3,1,1;w0,1;h0,1,0;", 25);
    }

    private static void lay() {
        due.is("5 nothing", new HourGreen().lay(), HourGreen.NO);
        String[] refused = {"g4;", "w0,1;", "f2;", "g4;w0,1;g", "g4;w0,1;g0;"};
        for (String text : refused) {
            HourGreen g = new HourGreen();
            Due.write(g, text);
            g.pass(1);
            g.up(0);
            g.seen(1, 1, 1);
            g.keep();
            due.is("5 lay of " + text, g.lay(), HourGreen.NO);
            due.is("5 still the hours", g.count(1), 7);
            due.is("5 still the year", g.count(2), 1);
            due.is("5 still stirred", g.count(6), 1);
            due.is("5 still seen", g.count(7), 1);
            due.is("5 still undone", g.count(8), 2);
            due.is("5 still kept", g.count(9), 1);
        }
        HourGreen g = new HourGreen();
        Due.write(g, "w1,8;g7;");
        due.is("5 lay", g.lay(), 1);
        due.is("5 the text stays", g.count(10), 8);
        due.is("5 plots", g.count(0), 1);
        due.is("5 room", g.plot(0, 0), 7);
        due.is("5 kind", g.hour(0, 0), 1);
        due.is("5 worth", g.hour(0, 1), 8);
        due.is("5 no frost left", g.count(5), 0);
        g.pass(2);
        due.is("5 no frost of before", g.count(5), 0);
        due.is("5 lay once more", g.lay(), 1);
        due.is("5 year", g.count(2), 0);
        Due.write(g, "f0;");
        due.is("5 lay with frost", g.lay(), 1);
        due.is("5 frost", g.count(5), 1);
    }

    private static void layClearsAll() {
        HourGreen g = new HourGreen();
        g.pass(3);
        g.up(0);
        g.dig(0);
        g.seen(1, 1, 1);
        g.keep();
        g.keep();
        Due.write(g, "g4;h0,3,0;");
        due.is("5 lay", g.lay(), 1);
        for (int what : new int[] {2, 6, 7, 8, 9}) {
            due.is("5 count(" + what + ")", g.count(what), 0);
        }
        due.is("5 undo", g.undo(), HourGreen.NO);
        due.is("5 back", g.back(), HourGreen.NO);
        due.is("5 seen", g.seen(1, 0, 1), 1);
    }

    /** What was asked ahead leaves nothing behind in what is laid then. */
    private static void layAfterAsking() {
        HourGreen g = new HourGreen();
        Due.write(g, "g4;h0,3,0;h0,2,0;f0;");
        due.is("4 fault", g.fault(), HourGreen.NONE);
        due.is("4 fault once more", g.fault(), HourGreen.NONE);
        g.up(0);
        g.pass(1);
        g.behind(60, 0);
        due.is("5 lay", g.lay(), 2);
        int[] counts = {1, 2, 0, 2, 5, 1, 0, 0, 0, 0, 20};
        for (int what = 0; what < counts.length; what++) {
            due.is("5 count(" + what + ")", g.count(what), counts[what]);
        }
        g.wipe();
        Due.write(g, "g4;w0,3;");
        due.is("4 fault", g.fault(), HourGreen.NONE);
        due.is("5 lay", g.lay(), 1);
        due.is("5 no frost", g.count(5), 0);
    }

    private static void plot() {
        HourGreen g = Due.laid("g4;g3;g9;h0,3,0;h1,7,0;h2,2,1;h2,4,1;w0,5;");
        int[][] want = {{4, 1, 2, 1}, {3, 2, 2, 3}, {9, 9, 0, HourGreen.NONE}};
        for (int p = 0; p < 3; p++) {
            for (int what = 0; what < 4; what++) {
                due.is("6 plot(" + p + ", " + what + ")", g.plot(p, what), want[p][what]);
            }
        }
        due.is("6 plot(-1, 0)", g.plot(-1, 0), HourGreen.BAD);
        due.is("6 plot(3, 0)", g.plot(3, 0), HourGreen.BAD);
        due.is("6 plot(0, -1)", g.plot(0, -1), HourGreen.BAD);
        due.is("6 plot(0, 4)", g.plot(0, 4), HourGreen.BAD);
        due.is("6 plot(2, 4)", g.plot(2, 4), HourGreen.BAD);
        due.is("6 plot(MIN, 0)", g.plot(Integer.MIN_VALUE, 0), HourGreen.BAD);
        due.is("6 plot(MAX, 0)", g.plot(Integer.MAX_VALUE, 0), HourGreen.BAD);
    }

    private static void hour() {
        HourGreen g = Due.laid("g9;w3,20;h2,1,0;h2,2,0;h0,3,0;h2,4,0;h1,5,0;h3,6,0;");
        int n = HourGreen.NONE;
        int[][] want = {{3, 20, n, n, n}, {2, 1, 0, 0, 1}, {2, 2, 0, 1, 0}, {0, 3, 0, 2, 1}, {2, 4, 0, 3, 1},
            {1, 5, 0, 4, 2}, {3, 6, 0, 5, 1}};
        for (int h = 0; h < 7; h++) {
            for (int what = 0; what < 5; what++) {
                due.is("7 hour(" + h + ", " + what + ")", g.hour(h, what), want[h][what]);
            }
        }
        due.is("7 hour(-1, 0)", g.hour(-1, 0), HourGreen.BAD);
        due.is("7 hour(7, 0)", g.hour(7, 0), HourGreen.BAD);
        due.is("7 hour(0, -1)", g.hour(0, -1), HourGreen.BAD);
        due.is("7 hour(0, 5)", g.hour(0, 5), HourGreen.BAD);
        due.is("7 hour(1, 0) of one", Due.laid("g1;w0,1;").hour(1, 0), HourGreen.BAD);
        g.up(3);
        due.is("7 poor on poor again", g.hour(4, 4), 0);
        due.is("7 one less deep", g.hour(4, 3), 2);
    }

    private static void fits() {
        HourGreen g = Due.laid("g1;g2;g2;g9;h2,1,0;h0,1,1;h2,1,2;h3,1,3;w2,1;w1,1;w3,1;");
        int[][] want = {
            {0, 1, 1, 0}, {0, 0, 1, 0}, {1, 1, 0, 0}, {0, 1, 1, 0}, {1, 1, 1, 0}, {0, 0, 0, 0}, {0, 1, 1, 0}};
        for (int h = 0; h < 7; h++) {
            for (int p = 0; p < 4; p++) {
                due.is("8 fits(" + h + ", " + p + ")", g.fits(h, p), want[h][p]);
            }
        }
        due.is("8 fits(-1, 0)", g.fits(-1, 0), HourGreen.BAD);
        due.is("8 fits(7, 0)", g.fits(7, 0), HourGreen.BAD);
        due.is("8 fits(0, -1)", g.fits(0, -1), HourGreen.BAD);
        due.is("8 fits(0, 4)", g.fits(0, 4), HourGreen.BAD);
        HourGreen frost = Due.laid("g1;w0,1;f0;");
        due.is("8 frost does not matter", frost.fits(0, 0), 1);
    }
}
