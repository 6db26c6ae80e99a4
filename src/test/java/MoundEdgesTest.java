/** The edges of HOURS in PLOTS and of promises 6 to 13: each test says which of the document's words it holds. */
public final class MoundEdgesTest {
    private static final Due due = new Due();
    private static final int NONE = HourGreen.NONE, NO = HourGreen.NO, BAD = HourGreen.BAD;

    public static void main(String[] args) {
        emptyAndFullPlots();
        theLowestAndTheHighestHour();
        roomThatEachNeeds();
        poorRightAbovePoor();
        notMoreThanTheRoom();
        nothingAboveAStonedOne();
        notIfItLiesThere();
        yearsModuloThePlots();
        onlyWhatLiesOnTop();
        onlyPlainOrPoor();
        manyYearsAtOnce();
        notAbove999();
        inTheLastYear();
        putOnlyFromThePorch();
        putOnlyIfItFits();
        putInNoYearOfFrost();
        putIsBadFirst();
        hadUpFromBeneathOthers();
        notHadUpFromThePorch();
        dugTo9();
        nothingToUndo();
        allYearsOfOneCallAtOnce();
        yearsByWhichNothingBecomesAnother();
        theLast8CanBeUndone();
        undoneAndDoneAnew();
        eachActIsUndone();
        whatIsNoAct();
        a512thCall();
        due.end();
    }

    private static HourGreen inYear(String text, int year) {
        HourGreen g = Due.laid(text);
        for (int left = year; left > 0; left -= 20) {
            g.pass(Math.min(left, 20));
        }
        return g;
    }

    /** "ROOM (what = 0), how much of it is free (1), how many HOURS (2), the one on top (3; NONE). BAD." */
    private static void emptyAndFullPlots() {
        HourGreen g = Due.laid("g9;g7;g1;" + "h0,1,1;".repeat(7));
        int[][] want = {{9, 9, 0, NONE}, {7, 0, 7, 6}, {1, 1, 0, NONE}};
        for (int p = 0; p < 3; p++) {
            for (int what = 0; what < 4; what++) {
                due.is("6 plot(" + p + ", " + what + ")", g.plot(p, what), want[p][what]);
            }
        }
        due.is("6 BAD ahead of NONE", g.plot(0, 4), BAD);
        due.is("6 BAD ahead of NONE", g.plot(3, 3), BAD);
    }

    /** "the PLOT (2; NONE: the PORCH), how many lie beneath it (3; NONE), ROOM that it needs .. (4; NONE)". */
    private static void theLowestAndTheHighestHour() {
        HourGreen g = Due.laid("g9;" + "h0,1,0;".repeat(6) + "w1,20;");
        due.is("7 beneath the lowest", g.hour(0, 3), 0);
        due.is("7 beneath the highest", g.hour(5, 3), 5);
        int[] ofThePorch = {1, 20, NONE, NONE, NONE, BAD};
        for (int what = 0; what < ofThePorch.length; what++) {
            due.is("7 hour(6, " + what + ")", g.hour(6, what), ofThePorch[what]);
        }
        g.put(6, 0);
        int[] ofThePlot = {1, 20, 0, 6, 2, BAD};
        for (int what = 0; what < ofThePlot.length; what++) {
            due.is("7 hour(6, " + what + ") put in", g.hour(6, what), ofThePlot[what]);
        }
    }

    /** "Each needs ROOM: a PLAIN one 1; a BAD one 2; a POOR one 1, or none ..; a STONED one 1". */
    private static void roomThatEachNeeds() {
        int[] alone = {1, 2, 1, 1};
        for (int kind = 0; kind <= 3; kind++) {
            HourGreen g = Due.laid("g9;h" + kind + ",1,0;");
            due.is("7 need of " + kind, g.hour(0, 4), alone[kind]);
            due.is("6 free", g.plot(0, 1), 9 - alone[kind]);
            for (int beneath = 0; beneath <= 2; beneath++) {
                HourGreen two = Due.laid("g9;h" + beneath + ",1,0;h" + kind + ",1,0;");
                int need = kind == 2 && beneath == 2 ? 0 : alone[kind];
                due.is("7 need of " + kind + " above " + beneath, two.hour(1, 4), need);
                due.is("6 free", two.plot(0, 1), 9 - alone[beneath] - need);
            }
        }
    }

    /** "or none if one that is POOR lies right beneath it". */
    private static void poorRightAbovePoor() {
        HourGreen g = Due.laid("g9;g9;h2,1,0;h0,1,0;h2,1,0;h2,1,0;h2,1,1;");
        int[] needs = {1, 1, 1, 0, 1};
        for (int h = 0; h < needs.length; h++) {
            due.is("7 need of " + h, g.hour(h, 4), needs[h]);
        }
        due.is("6 free", g.plot(0, 1), 6);
        g.up(1);
        due.is("7 right above a poor one", g.hour(2, 4), 0);
        due.is("6 free", g.plot(0, 1), 8);
        g.up(0);
        due.is("7 the lowest", g.hour(2, 4), 1);
        due.is("7 above it", g.hour(3, 4), 0);
        due.is("6 free", g.plot(0, 1), 8);
    }

    /** "what all need there then is not more than the ROOM of the PLOT". */
    private static void notMoreThanTheRoom() {
        for (int d = 1; d <= 7; d++) {
            HourGreen g = Due.laid("g" + d + ";" + "h0,1,0;".repeat(d - 1) + "w0,1;");
            due.is("8 the last room of " + d, g.fits(d - 1, 0), 1);
        }
        for (int d = 1; d <= 6; d++) {
            HourGreen g = Due.laid("g" + d + ";" + "h0,1,0;".repeat(d) + "w0,1;");
            due.is("8 no room of " + d, g.fits(d, 0), 0);
            g.dig(0);
            due.is("8 dug", g.fits(d, 0), 1);
        }
        for (int free = 0; free <= 3; free++) {
            HourGreen g = Due.laid("g4;" + "h0,1,0;".repeat(4 - free) + "w1,1;");
            due.is("8 a bad one where " + free + " are free", g.fits(4 - free, 0), free >= 2 ? 1 : 0);
        }
        HourGreen full = Due.laid("g1;g1;h2,1,0;h0,1,1;w2,1;w0,1;w3,1;");
        due.is("8 poor above poor", full.fits(2, 0), 1);
        due.is("8 poor above plain", full.fits(2, 1), 0);
        due.is("8 plain above poor", full.fits(3, 0), 0);
        due.is("8 stoned above poor", full.fits(4, 0), 0);
        HourGreen empty = Due.laid("g1;w0,1;w1,1;w2,1;w3,1;f0;");
        for (int kind = 0; kind <= 3; kind++) {
            due.is("8 of kind " + kind + " in an empty one", empty.fits(kind, 0), kind == 1 ? 0 : 1);
        }
    }

    /** "a STONED one 1, and nothing is put above it"; "if none of these on top is STONED". */
    private static void nothingAboveAStonedOne() {
        HourGreen g = Due.laid("g9;g9;h2,1,0;h3,1,0;w0,1;w1,1;w2,1;w3,1;h0,1,1;");
        for (int h = 2; h <= 6; h++) {
            due.is("8 above a stoned one", g.fits(h, 0), 0);
        }
        for (int h = 2; h <= 5; h++) {
            due.is("10 above a stoned one", g.put(h, 0), NO);
        }
        g.up(1);
        for (int h = 1; h <= 6; h++) {
            due.is("8 the stoned one is up", g.fits(h, 0), 1);
        }
        due.is("10 the stoned one is up", g.put(4, 0), 8);
        HourGreen beneath = Due.laid("g9;h0,1,0;h3,1,0;w0,1;");
        due.is("11 from beneath a stoned one", beneath.up(0), 1);
        due.is("8 it is stoned still", beneath.fits(0, 0), 0);
    }

    /** "(wherever it is, but not if it lies there)". */
    private static void notIfItLiesThere() {
        HourGreen g = Due.laid("g9;g9;g9;h2,1,0;h2,1,0;h0,1,1;w0,1;");
        int[][] want = {{0, 1, 1}, {0, 1, 1}, {1, 0, 1}, {1, 1, 1}};
        for (int h = 0; h < 4; h++) {
            for (int p = 0; p < 3; p++) {
                due.is("8 fits(" + h + ", " + p + ")", g.fits(h, p), want[h][p]);
            }
        }
    }

    /** "By a YEAR rabbits are in PLOT (the YEAR modulo as many PLOTS as there are)". */
    private static void yearsModuloThePlots() {
        for (int plots = 1; plots <= 5; plots++) {
            HourGreen g = inYear("g1;".repeat(plots) + "w0,1;".repeat(plots), 0);
            for (int round = 0; round < 3; round++) {
                for (int p = 0; p < plots; p++) {
                    due.is("10 put", g.put(p, p), 0);
                }
                for (int p = 0; p < plots; p++) {
                    due.is("9 it lies ahead of its year", g.hour(p, 2), p);
                    due.is("9 pass(1) of " + plots, g.pass(1), 1);
                    due.is("9 it is thrown out", g.hour(p, 2), NONE);
                    due.is("9 then the year is one more", g.count(2), round * plots + p + 1);
                }
            }
            HourGreen late = inYear("g1;".repeat(plots) + "w0,1;".repeat(plots), 998);
            for (int p = 0; p < plots; p++) {
                late.put(p, p);
            }
            late.pass(1);
            int[] thrown = {0, 0, 0, 2, 2, 3};
            for (int p = 0; p < plots; p++) {
                due.is("9 year 998 of " + plots, late.hour(p, 2), p == thrown[plots] ? NONE : p);
            }
        }
    }

    /** "the HOUR on top of it .. is thrown out: it is in the PORCH". */
    private static void onlyWhatLiesOnTop() {
        HourGreen empty = Due.laid("g9;g9;h0,1,1;w0,1;");
        due.is("9 nothing lies there", empty.pass(1), 0);
        due.is("9 the other plot", empty.hour(0, 2), 1);
        HourGreen g = Due.laid("g9;h0,1,0;h0,2,0;h0,3,0;");
        due.is("9 one", g.pass(1), 1);
        due.is("9 the top is out", g.hour(2, 2), NONE);
        due.is("9 the next is on top", g.plot(0, 3), 1);
        due.is("9 nothing is stirred", g.count(6), 0);
        g.put(2, 0);
        due.is("10 on top again", g.hour(2, 3), 2);
    }

    /** "if it is PLAIN or POOR". */
    private static void onlyPlainOrPoor() {
        int[] thrown = {1, 0, 1, 0};
        for (int kind = 0; kind <= 3; kind++) {
            due.is("9 of kind " + kind, Due.laid("g9;h" + kind + ",1,0;").pass(1), thrown[kind]);
            HourGreen g = Due.laid("g9;h0,1,0;h" + kind + ",1,0;");
            due.is("9 what lies beneath " + kind, g.pass(20), 2 * thrown[kind]);
        }
    }

    /** "n (1 to 20) YEARS go by: how many HOURS are thrown out." */
    private static void manyYearsAtOnce() {
        for (int n = 1; n <= 20; n++) {
            HourGreen g = Due.laid("g9;" + "h0,1,0;".repeat(7));
            due.is("9 pass(" + n + ")", g.pass(n), Math.min(n, 7));
            due.is("9 year", g.count(2), n);
            due.is("9 that lie", g.count(3), Math.max(0, 7 - n));
        }
        HourGreen five = Due.laid("g9;g9;g9;g9;g9;" + "h0,1,4;".repeat(5));
        due.is("9 pass(4)", five.pass(4), 0);
        due.is("9 pass(20)", five.pass(20), 4);
        due.is("9 pass(1)", five.pass(1), 1);
        due.still("9 pass(0)", MoundEdgesTest::busy, g -> g.pass(0), BAD);
        due.still("9 pass(21)", MoundEdgesTest::busy, g -> g.pass(21), BAD);
    }

    private static HourGreen busy() {
        HourGreen g = Due.laid("g9;g9;h0,1,0;h0,2,0;w0,3;");
        g.dig(0);
        g.put(2, 1);
        g.keep();
        g.up(0);
        g.seen(1, 1, 1);
        return g;
    }

    /** "NO: it would be above 999." */
    private static void notAbove999() {
        String text = "g9;g9;h0,1,1;";
        for (int n = 1; n <= 20; n++) {
            int years = n;
            HourGreen last = inYear(text, 999 - n);
            due.is("9 pass(" + n + ") to 999", last.pass(n), 0);
            due.is("9 year", last.count(2), 999);
            due.still("9 pass(" + n + ") to 1000", () -> inYear(text, 1000 - years), g -> g.pass(years), NO);
        }
        due.still("9 BAD ahead of NO", () -> inYear(text, 999), g -> g.pass(21), BAD);
        due.still("9 BAD ahead of NO", () -> inYear(text, 999), g -> g.pass(0), BAD);
        due.is("9 from 979", inYear(text, 979).pass(20), 0);
        due.is("9 from 980", inYear(text, 980).pass(20), NO);
    }

    /** "NO: it would be above 999": what else is done goes on in the last YEAR. */
    private static void inTheLastYear() {
        HourGreen g = inYear("g8;g9;w0,1;w0,2;", 999);
        due.is("10 put", g.put(0, 1), 8);
        due.is("10 put", g.put(1, 1), 7);
        due.is("11 up", g.up(0), 1);
        due.is("12 dig", g.dig(0), 9);
        due.is("30 no frost", g.count(5), 0);
        for (int i = 0; i < 4; i++) {
            g.undo();
        }
        due.is("13 undone to the year ahead", g.undo(), 3);
        due.is("30 year", g.count(2), 980);
        due.is("9 pass", g.pass(19), 0);
    }

    /** "PUT IN an HOUR that is in the PORCH"; "NO: it lies". */
    private static void putOnlyFromThePorch() {
        due.still("10 it lies elsewhere", MoundEdgesTest::busy, g -> g.put(1, 1), NO);
        due.still("10 it lies there", MoundEdgesTest::busy, g -> g.put(1, 0), NO);
        HourGreen g = busy();
        due.is("10 it is in the porch", g.put(0, 1), 7);
        due.is("10 it lies now", g.put(0, 1), NO);
        due.is("10 it lies now", g.put(0, 0), NO);
    }

    /** "if it FITS there": "how much is free in the PLOT then"; "NO: .. it does not FIT". */
    private static void putOnlyIfItFits() {
        due.is("10 the last room", Due.laid("g1;w0,1;").put(0, 0), 0);
        due.is("10 the last room", Due.laid("g2;w1,1;").put(0, 0), 0);
        due.is("10 much room", Due.laid("g9;w0,1;").put(0, 0), 8);
        due.is("10 no more of it", Due.laid("g1;h2,1,0;w2,1;").put(1, 0), 0);
        due.still("10 one too few", () -> Due.laid("g1;g9;w1,1;"), g -> g.put(0, 0), NO);
        due.still("10 full", () -> Due.laid("g1;h0,1,0;w0,1;"), g -> g.put(1, 0), NO);
        due.still("10 full", () -> Due.laid("g1;h0,1,0;w2,1;"), g -> g.put(1, 0), NO);
        due.still("10 stoned", () -> Due.laid("g9;h3,1,0;w0,1;"), g -> g.put(1, 0), NO);
    }

    /** "and it is no YEAR of FROST"; "NO: .. FROST". */
    private static void putInNoYearOfFrost() {
        String text = "g9;h0,1,0;h1,1,0;w1,1;f0;f7;f39;";
        for (int year : new int[] {0, 7, 39}) {
            due.still("10 frost in " + year, () -> inYear(text, year), g -> g.put(2, 0), NO);
            due.still("10 frost, and it lies", () -> inYear(text, year), g -> g.put(1, 0), NO);
            due.still("10 BAD ahead of frost", () -> inYear(text, year), g -> g.put(3, 0), BAD);
            due.is("8 it fits", inYear(text, year).fits(2, 0), 1);
            due.is("11 up in frost", inYear(text, year).up(0), 1);
            due.is("12 dig in frost", inYear(text.replace("g9", "g8"), year).dig(0), 9);
            due.is("9 pass in frost", inYear("g9;w0,1;f" + year + ";", year).pass(1), 0);
        }
        for (int year : new int[] {1, 6, 8, 38, 40, 64, 71, 103, 999}) {
            due.is("10 no frost in " + year, inYear(text, year).put(2, 0), 4);
        }
    }

    /** "BAD; NO": "Of several the first in this order". */
    private static void putIsBadFirst() {
        due.still("10 it lies, no plot", MoundEdgesTest::busy, g -> g.put(1, 2), BAD);
        due.still("10 it lies, no plot", MoundEdgesTest::busy, g -> g.put(1, -1), BAD);
        due.still("10 no hour, no plot", MoundEdgesTest::busy, g -> g.put(3, 2), BAD);
        due.still("10 no hour", () -> Due.laid("g9;h3,1,0;"), g -> g.put(1, 0), BAD);
        due.still("10 no hour", () -> Due.laid("g9;h3,1,0;"), g -> g.put(-1, 0), BAD);
    }

    /** "HAD UP one is in the PORCH; those above it, STIRRED, lie there as they did, one less deep." */
    private static void hadUpFromBeneathOthers() {
        String seven = "g9;" + "h0,1,0;".repeat(7);
        for (int up = 0; up < 7; up++) {
            HourGreen g = Due.laid(seven);
            due.is("11 up(" + up + ")", g.up(up), 6 - up);
            due.is("11 stirred", g.count(6), 6 - up);
            for (int h = 0; h < 7; h++) {
                due.is("11 beneath " + h, g.hour(h, 3), h == up ? NONE : h < up ? h : h - 1);
            }
            due.is("11 one more is free", g.plot(0, 1), 3);
        }
        HourGreen g = Due.laid(seven);
        for (int h = 0; h < 7; h++) {
            due.is("11 the lowest", g.up(h), 6 - h);
        }
        due.is("11 stirred in all", g.count(6), 21);
        due.is("11 none lies", g.count(3), 0);
        HourGreen beside = Due.laid("g9;g9;h0,1,0;h0,2,1;h0,3,1;");
        due.is("11 others beside it", beside.up(0), 0);
        due.is("11 they stay", beside.hour(2, 3), 1);
        beside.put(0, 1);
        due.is("11 the one put in last is stirred", beside.up(1), 2);
        due.is("11 one less deep", beside.hour(0, 3), 1);
        due.is("11 one less deep", beside.hour(2, 3), 0);
        due.is("11 of any kind", Due.laid("g9;h3,1,0;").up(0), 0);
        due.is("11 of any kind", Due.laid("g9;h1,1,0;").up(0), 0);
    }

    /** "NO: it is in the PORCH." */
    private static void notHadUpFromThePorch() {
        due.still("11 in the porch", MoundEdgesTest::busy, g -> g.up(0), NO);
        due.still("11 no hour", MoundEdgesTest::busy, g -> g.up(3), BAD);
        due.still("11 told to be there", () -> Due.laid("g9;w0,1;"), g -> g.up(0), NO);
        HourGreen g = Due.laid("g9;h0,1,0;");
        g.pass(1);
        due.is("11 thrown out", g.up(0), NO);
    }

    /** "DUG a PLOT has 1 more ROOM (9 at most)"; "BAD; NO: 9." */
    private static void dugTo9() {
        HourGreen g = Due.laid("g1;g9;h0,1,0;");
        for (int room = 2; room <= 9; room++) {
            due.is("12 dig", g.dig(0), room);
            due.is("12 room", g.plot(0, 0), room);
            due.is("12 free", g.plot(0, 1), room - 1);
        }
        due.is("12 at 9", g.dig(0), NO);
        due.is("12 the other stays", g.plot(1, 0), 9);
        for (int room = 1; room <= 8; room++) {
            due.is("12 dig of " + room, Due.laid("g" + room + ";w0,1;").dig(0), room + 1);
        }
        due.still("12 told with 9", () -> Due.laid("g9;g8;w0,1;"), it -> it.dig(0), NO);
        due.still("12 no plot", () -> Due.laid("g9;g8;w0,1;"), it -> it.dig(2), BAD);
        due.still("12 dug to 9", () -> dug("g9;g8;w0,1;", 1), it -> it.dig(1), NO);
    }

    private static HourGreen dug(String text, int p) {
        HourGreen g = Due.laid(text);
        g.dig(p);
        return g;
    }

    /** "UNDONE: how many more can be. NO." */
    private static void nothingToUndo() {
        due.still("13 a new object", HourGreen::new, HourGreen::undo, NO);
        due.still("13 laid", () -> Due.laid("g9;w0,1;"), HourGreen::undo, NO);
        due.still("13 undone already", () -> undone(1), HourGreen::undo, NO);
        due.still("13 all 8 undone", () -> undone(8), HourGreen::undo, NO);
        due.still("13 the 9th", () -> undone(9), HourGreen::undo, NO);
    }

    private static HourGreen undone(int acts) {
        HourGreen g = Due.laid("g9;h0,1,0;");
        g.seen(1, 0, 1);
        g.keep();
        for (int i = 0; i < acts; i++) {
            g.pass(1);
        }
        for (int i = 0; i < Math.min(acts, 8); i++) {
            g.undo();
        }
        return g;
    }

    /** "(all of one call at once". */
    private static void allYearsOfOneCallAtOnce() {
        HourGreen g = Due.laid("g9;" + "h0,1,0;".repeat(7));
        g.pass(20);
        due.is("30 one can be undone", g.count(8), 1);
        due.is("13 undo", g.undo(), 0);
        due.is("13 year", g.count(2), 0);
        for (int h = 0; h < 7; h++) {
            due.is("13 it lies as it did", g.hour(h, 3), h);
        }
    }

    /** "such by which nothing becomes another, too". */
    private static void yearsByWhichNothingBecomesAnother() {
        HourGreen g = Due.laid("g9;h3,1,0;");
        due.is("9 nothing is thrown out", g.pass(5), 0);
        due.is("30 it can be undone", g.count(8), 1);
        due.is("9 nothing is thrown out", g.pass(3), 0);
        due.is("30 both can be undone", g.count(8), 2);
        due.is("13 undo", g.undo(), 1);
        due.is("13 year", g.count(2), 5);
        due.is("13 undo", g.undo(), 0);
        due.is("13 year", g.count(2), 0);
    }

    /** "the last 8 can be". */
    private static void theLast8CanBeUndone() {
        for (int acts = 0; acts <= 20; acts++) {
            HourGreen g = Due.laid("g9;w0,1;");
            for (int i = 0; i < acts; i++) {
                g.pass(1);
                due.is("30 can be undone", g.count(8), Math.min(i + 1, 8));
            }
            int can = Math.min(acts, 8);
            for (int i = 1; i <= can; i++) {
                due.is("13 undo " + i + " of " + acts, g.undo(), can - i);
                due.is("30 can be undone", g.count(8), can - i);
                due.is("13 year", g.count(2), acts - i);
            }
            due.is("13 no more of " + acts, g.undo(), NO);
            due.is("13 year", g.count(2), acts - can);
        }
    }

    /** "the last 8 can be": what is undone makes room for what is done then. */
    private static void undoneAndDoneAnew() {
        for (int undone = 0; undone <= 8; undone++) {
            HourGreen g = Due.laid("g9;w0,1;");
            for (int i = 0; i < 11; i++) {
                g.pass(1);
            }
            for (int i = 0; i < undone; i++) {
                g.undo();
            }
            for (int i = 0; i < 5; i++) {
                g.pass(10);
                due.is("30 can be undone", g.count(8), Math.min(8, 8 - undone + i + 1));
            }
            int held = Math.min(8, 8 - undone + 5);
            int year = 11 - undone + 50;
            for (int i = 1; i <= held; i++) {
                year -= i <= 5 ? 10 : 1;
                due.is("13 undo", g.undo(), held - i);
                due.is("13 year", g.count(2), year);
            }
            due.is("13 no more", g.undo(), NO);
        }
    }

    /** "UNDONE is the latest of these, of YEARS": put in, had up, dug. */
    private static void eachActIsUndone() {
        String text = "g4;g3;g5;h0,3,0;h1,7,0;h2,2,1;h2,4,1;w0,5;";
        int[] before = Whole.of(Due.laid(text));
        for (int act = 0; act < 5; act++) {
            HourGreen g = Due.laid(text);
            due.is("13 act " + act, act(g, act) >= 0 ? 1 : 0, 1);
            due.is("13 undo of " + act, g.undo(), 0);
            int[] then = Whole.of(g);
            due.is("13 all as before " + act, java.util.Arrays.equals(then, before) ? 1 : 0, 1);
        }
    }

    private static int act(HourGreen g, int which) {
        switch (which) {
            case 0: return g.pass(20);
            case 1: return g.put(4, 2);
            case 2: return g.up(0);
            case 3: return g.dig(1);
            default: return g.up(3);
        }
    }

    /** "UNDONE is the latest of these": refused acts, what is seen, kept, written and undone are none of these. */
    private static void whatIsNoAct() {
        HourGreen g = Due.laid("g9;h0,1,0;w0,1;f0;");
        g.pass(21);
        g.put(1, 0);
        g.up(1);
        g.dig(0);
        g.undo();
        g.lay();
        g.seen(1, 0, 1);
        g.forget();
        g.keep();
        g.write('x');
        g.wipe();
        due.is("30 nothing can be undone", g.count(8), 0);
        g.up(0);
        g.seen(1, 0, 1);
        g.keep();
        g.write('x');
        due.is("13 the act, not what came behind it", g.undo(), 0);
        due.is("13 it lies again", g.hour(0, 2), 0);
        due.is("13 still seen", g.count(7), 1);
        due.is("13 still kept", g.count(9), 2);
        due.is("13 still written", g.count(10), 1);
        due.is("13 undo is no act", g.undo(), NO);
    }

    /** "An object is used for at most 512 calls after it has been made". */
    private static void a512thCall() {
        HourGreen g = new HourGreen();
        for (int i = 0; i < 255; i++) {
            due.is("10 put", g.put(5, 0), 0);
            due.is("11 up", g.up(5), 0);
        }
        due.is("30 the 511th call", g.count(8), 8);
        due.is("13 the 512th call", g.undo(), 7);
    }
}
