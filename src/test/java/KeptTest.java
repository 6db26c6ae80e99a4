/** Promises 28 to 30: greens kept, and counts. */
public final class KeptTest {
    private static final Due due = new Due();

    public static void main(String[] args) {
        keepAndBack();
        backLeavesTextAndSeen();
        count();
        due.end();
    }

    private static void keepAndBack() {
        HourGreen g = Due.laid("g2;g9;h0,1,0;h0,2,0;w1,3;");
        due.is("29 nothing kept", g.back(), HourGreen.NO);
        due.is("28 keep", g.keep(), 1);
        g.up(0);
        g.dig(0);
        g.pass(3);
        g.put(2, 1);
        due.is("28 keep", g.keep(), 2);
        g.up(2);
        due.is("28 a third", g.keep(), HourGreen.FULL);
        due.is("28 two", g.count(9), 2);
        due.is("29 back", g.back(), 1);
        due.is("29 one left", g.count(9), 1);
        due.is("29 it lies again", g.hour(2, 2), 1);
        due.is("29 stirred", g.count(6), 1);
        due.is("29 year", g.count(2), 3);
        due.is("29 room", g.plot(0, 0), 3);
        due.is("29 nothing to undo", g.count(8), 0);
        due.is("29 undo", g.undo(), HourGreen.NO);
        due.is("28 keep the same", g.keep(), 2);
        due.is("29 back", g.back(), 1);
        g.pass(1);
        due.is("29 back to the first", g.back(), 0);
        due.is("29 year 0", g.count(2), 0);
        due.is("29 not stirred", g.count(6), 0);
        due.is("29 room", g.plot(0, 0), 2);
        due.is("29 beneath", g.hour(1, 3), 1);
        due.is("29 nothing to undo", g.count(8), 0);
        due.is("29 no more", g.back(), HourGreen.NO);
        g.pass(1);
        due.is("29 a refused back leaves what can be undone", g.back(), HourGreen.NO);
        due.is("29 undo", g.undo(), 0);
        g.keep();
        due.is("28 keep leaves what can be undone", g.count(8), 0);
        g.pass(1);
        g.keep();
        due.is("28 keep leaves what can be undone", g.count(8), 1);
        due.is("28 it is no act", g.undo(), 0);
        due.is("28 still kept", g.count(9), 2);
    }

    private static void backLeavesTextAndSeen() {
        HourGreen g = new HourGreen();
        g.keep();
        g.write('g');
        g.seen(1, 1, 1);
        g.back();
        due.is("29 text", g.count(10), 1);
        due.is("29 seen", g.count(7), 1);
    }

    private static void count() {
        HourGreen g = Due.laid("g4;g3;h0,3,0;h1,7,0;h2,2,1;w0,5;f0;f2;");
        int[] first = {2, 4, 0, 3, 12, 1, 0, 0, 0, 0, 38};
        for (int what = 0; what < first.length; what++) {
            due.is("30 count(" + what + ")", g.count(what), first[what]);
        }
        g.pass(2);
        g.up(0);
        g.seen(1, 1, 0);
        g.keep();
        g.write('x');
        int[] then = {2, 4, 2, 1, 7, 1, 1, 1, 2, 1, 39};
        for (int what = 0; what < then.length; what++) {
            due.is("30 count(" + what + ") then", g.count(what), then[what]);
        }
        g.pass(1);
        due.is("30 no frost", g.count(5), 0);
        due.is("30 count(-1)", g.count(-1), HourGreen.BAD);
        due.is("30 count(11)", g.count(11), HourGreen.BAD);
        due.is("30 count(MAX)", g.count(Integer.MAX_VALUE), HourGreen.BAD);
        due.is("30 count(MIN)", g.count(Integer.MIN_VALUE), HourGreen.BAD);
    }
}
