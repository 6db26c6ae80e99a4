/** Promises 9 to 13: years, put in, had up, dug, undone. */
public final class ActsTest {
    private static final Due due = new Due();

    public static void main(String[] args) {
        pass();
        passToTheLastYear();
        put();
        putInFrost();
        up();
        dig();
        undo();
        undoOfTheLastEight();
        undoOfNothingChanged();
        due.end();
    }

    private static void pass() {
        HourGreen g = Due.laid("g9;g9;h0,1,0;h2,2,0;h1,3,1;h0,4,1;w0,5;");
        due.is("9 pass(0)", g.pass(0), HourGreen.BAD);
        due.is("9 pass(21)", g.pass(21), HourGreen.BAD);
        due.is("9 pass(-1)", g.pass(-1), HourGreen.BAD);
        due.is("9 pass(MIN)", g.pass(Integer.MIN_VALUE), HourGreen.BAD);
        due.is("9 pass(MAX)", g.pass(Integer.MAX_VALUE), HourGreen.BAD);
        due.is("9 nothing has gone by", g.count(2), 0);
        due.is("9 pass(1)", g.pass(1), 1);
        due.is("9 the top is out", g.hour(1, 2), HourGreen.NONE);
        due.is("9 what was beneath is on top", g.plot(0, 3), 0);
        due.is("9 pass(2)", g.pass(2), 2);
        due.is("9 year", g.count(2), 3);
        due.is("9 pass(20)", g.pass(20), 0);
        due.is("9 a bad one stays", g.plot(1, 3), 2);
        due.is("9 nothing is stirred", g.count(6), 0);
        HourGreen stoned = Due.laid("g9;h0,1,0;h3,1,0;");
        due.is("9 a stoned one stays", stoned.pass(20), 0);
        HourGreen frost = Due.laid("g9;h0,1,0;f0;");
        due.is("9 frost keeps no rabbit off", frost.pass(1), 1);
    }

    private static void passToTheLastYear() {
        HourGreen g = Due.laid("g1;w0,1;");
        for (int i = 0; i < 49; i++) {
            due.is("9 pass(20)", g.pass(20), 0);
        }
        due.is("9 pass(20) above 999", g.pass(20), HourGreen.NO);
        due.is("9 BAD ahead of NO", g.pass(21), HourGreen.BAD);
        due.is("9 year 980", g.count(2), 980);
        due.is("9 pass(19)", g.pass(19), 0);
        due.is("9 year 999", g.count(2), 999);
        due.is("9 pass(1)", g.pass(1), HourGreen.NO);
        due.is("9 years beyond the last", g.years(20), 0);
        due.is("9 put in the last", g.put(0, 0), 0);
        due.is("14 out beyond the last", g.out(0), 1);
        due.is("15 behind beyond the last", g.behind(60, 0), HourGreen.NONE);
        due.is("21 years beyond the last", g.years(20), 1);
    }

    private static void put() {
        HourGreen g = Due.laid("g2;g1;g9;h2,1,0;h3,1,2;w2,1;w1,1;w0,1;w0,1;");
        due.is("10 put(-1, 0)", g.put(-1, 0), HourGreen.BAD);
        due.is("10 put(6, 0)", g.put(6, 0), HourGreen.BAD);
        due.is("10 put(2, -1)", g.put(2, -1), HourGreen.BAD);
        due.is("10 put(2, 3)", g.put(2, 3), HourGreen.BAD);
        due.is("10 it lies", g.put(0, 1), HourGreen.NO);
        due.is("10 it lies there", g.put(0, 0), HourGreen.NO);
        due.is("10 bad needs two", g.put(3, 1), HourGreen.NO);
        due.is("10 above a stoned one", g.put(4, 2), HourGreen.NO);
        due.is("10 nothing to undo", g.count(8), 0);
        due.is("10 poor on poor", g.put(2, 0), 1);
        due.is("10 above all", g.plot(0, 3), 2);
        due.is("10 how many beneath", g.hour(2, 3), 1);
        due.is("10 plain on poor", g.put(4, 0), 0);
        due.is("10 no room", g.put(5, 0), HourGreen.NO);
        due.is("10 the last room", g.put(5, 1), 0);
        due.is("10 BAD ahead of NO", g.put(5, 3), HourGreen.BAD);
    }

    private static void putInFrost() {
        HourGreen g = Due.laid("g9;w1,1;f0;f39;");
        due.is("10 frost", g.put(0, 0), HourGreen.NO);
        due.is("10 BAD ahead of frost", g.put(0, 1), HourGreen.BAD);
        g.pass(1);
        due.is("10 no frost", g.put(0, 0), 7);
        due.is("11 up in frost is free", Due.laid("g9;h0,1,0;f0;").up(0), 0);
        due.is("12 dig in frost is free", Due.laid("g8;h0,1,0;f0;").dig(0), 9);
        g.up(0);
        g.pass(19);
        g.pass(19);
        due.is("10 year 39", g.count(2), 39);
        due.is("10 frost in 39", g.put(0, 0), HourGreen.NO);
        g.pass(1);
        due.is("10 no frost in 40", g.put(0, 0), 7);
        g.up(0);
        g.pass(20);
        g.pass(4);
        due.is("10 no frost in 64", g.put(0, 0), 7);
        due.is("30 no frost in 64", g.count(5), 0);
    }

    private static void up() {
        HourGreen g = Due.laid("g9;g9;h0,1,0;h1,2,0;h2,3,0;h3,4,0;h0,5,1;w0,6;");
        due.is("11 up(-1)", g.up(-1), HourGreen.BAD);
        due.is("11 up(6)", g.up(6), HourGreen.BAD);
        due.is("11 in the porch", g.up(5), HourGreen.NO);
        due.is("11 up(1)", g.up(1), 2);
        due.is("11 it is in the porch", g.hour(1, 2), HourGreen.NONE);
        int[] beneath = {0, HourGreen.NONE, 1, 2, 0};
        for (int h = 0; h < 5; h++) {
            due.is("11 beneath " + h, g.hour(h, 3), beneath[h]);
        }
        due.is("11 free", g.plot(0, 1), 6);
        due.is("11 stirred", g.count(6), 2);
        due.is("11 up(0)", g.up(0), 2);
        due.is("11 stirred in all", g.count(6), 4);
        due.is("11 up of the top", g.up(3), 0);
        due.is("11 up of the last", g.up(2), 0);
        due.is("11 nothing on top", g.plot(0, 3), HourGreen.NONE);
        due.is("11 no more", g.up(2), HourGreen.NO);
    }

    private static void dig() {
        HourGreen g = Due.laid("g8;g9;w0,1;");
        due.is("12 dig(-1)", g.dig(-1), HourGreen.BAD);
        due.is("12 dig(2)", g.dig(2), HourGreen.BAD);
        due.is("12 dig(1)", g.dig(1), HourGreen.NO);
        due.is("12 nothing to undo", g.count(8), 0);
        due.is("12 dig(0)", g.dig(0), 9);
        due.is("12 room", g.plot(0, 0), 9);
        due.is("12 free", g.plot(0, 1), 9);
        due.is("12 dig(0) once more", g.dig(0), HourGreen.NO);
        due.is("12 to undo", g.count(8), 1);
    }

    private static void undo() {
        HourGreen g = Due.laid("g2;g9;h0,1,0;h0,2,0;w0,3;");
        due.is("13 nothing", g.undo(), HourGreen.NO);
        g.put(2, 1);
        g.dig(0);
        g.up(0);
        g.pass(5);
        g.seen(1, 1, 1);
        g.keep();
        due.is("13 undone: years", g.undo(), 3);
        due.is("13 all years of a call", g.count(2), 0);
        due.is("13 it lies again", g.hour(2, 2), 1);
        due.is("13 still stirred", g.count(6), 1);
        due.is("13 undone: up", g.undo(), 2);
        due.is("13 not stirred", g.count(6), 0);
        due.is("13 deep again", g.hour(1, 3), 1);
        due.is("13 undone: dig", g.undo(), 1);
        due.is("13 room", g.plot(0, 0), 2);
        due.is("13 undone: put", g.undo(), 0);
        due.is("13 in the porch", g.hour(2, 2), HourGreen.NONE);
        due.is("13 nothing more", g.undo(), HourGreen.NO);
        due.is("13 what is seen stays", g.count(7), 1);
        due.is("13 what is kept stays", g.count(9), 1);
    }

    private static void undoOfTheLastEight() {
        HourGreen g = Due.laid("g1;w1,1;");
        for (int i = 1; i <= 11; i++) {
            g.pass(i);
            due.is("13 can be undone", g.count(8), Math.min(i, 8));
        }
        int year = 66;
        for (int i = 11; i > 3; i--) {
            due.is("13 undo", g.undo(), i - 4);
            year -= i;
            due.is("13 year", g.count(2), year);
        }
        due.is("13 no ninth", g.undo(), HourGreen.NO);
        g.pass(1);
        due.is("13 one again", g.undo(), 0);
        due.is("13 year", g.count(2), 6);
    }

    private static void undoOfNothingChanged() {
        HourGreen g = Due.laid("g1;w1,1;");
        g.pass(1);
        g.put(0, 0);
        g.up(0);
        g.pass(0);
        g.dig(1);
        due.is("13 refused calls are none", g.count(8), 1);
        due.is("13 a year without a throw", g.undo(), 0);
    }
}
