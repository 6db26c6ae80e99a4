/** The edges of "What it is" and of promises 1 to 5: each test says which of the document's words it holds. */
public final class TextEdgesTest {
    private static final Due due = new Due();
    private static final int NONE = HourGreen.NONE, NO = HourGreen.NO, FULL = HourGreen.FULL, BAD = HourGreen.BAD;

    public static void main(String[] args) {
        aLetter();
        atMost200Letters();
        aLaidTextOf200Letters();
        theTextIsEmpty();
        itemsOneBehindTheOther();
        anItemBeginsWithALetter();
        oneOrTwoFigures();
        partedByCommas();
        textsCutOff();
        roomOf1To9();
        atMost5Plots();
        kindsOf0To3();
        worthOf1To20();
        aPlotToldAhead();
        aboveAllThatWereToldToLieThere();
        whatFitsThere();
        atMost7Hours();
        frostOfYears0To39();
        frostToldOnceMore();
        theFirstFault();
        aPlotAndAnHourAtLeast();
        laidAtFirst();
        laidAnew();
        due.end();
    }

    private static String times(int n, String text) {
        return text.repeat(n);
    }

    private static void fault(String text, int want) {
        due.is("4 fault of " + text, Due.faultOf(text), want);
    }

    private static HourGreen written(String text) {
        HourGreen g = new HourGreen();
        Due.write(g, text);
        return g;
    }

    /** "A letter (32 to 126, as in ASCII) comes behind THE TEXT: how long it is." */
    private static void aLetter() {
        HourGreen g = new HourGreen();
        for (int letter = 32; letter <= 126; letter++) {
            due.is("2 write(" + letter + ")", g.write(letter), letter - 31);
        }
        for (int letter : new int[] {31, 127, 0, 10, -1, 128, 255, 256 + 'g', -'g'}) {
            due.still("2 write(" + letter + ")", () -> written("g9;w0,1;"), it -> it.write(letter), BAD);
        }
    }

    /** "A TEXT is letters (200 at most)"; "BAD; FULL." */
    private static void atMost200Letters() {
        String letters = times(50, "f0;x");
        due.is("2 the 200th letter", written(letters.substring(1)).write('x'), 200);
        due.still("2 the 201st letter", () -> written(letters), g -> g.write('x'), FULL);
        due.still("2 BAD ahead of FULL", () -> written(letters), g -> g.write(127), BAD);
        due.still("2 BAD ahead of FULL", () -> written(letters), g -> g.write(31), BAD);
        HourGreen g = written(letters);
        due.is("3 wipe of 200", g.wipe(), 200);
        due.is("2 the first letter again", g.write('x'), 1);
        HourGreen twice = written(times(150, "x"));
        twice.wipe();
        Due.write(twice, times(199, "x"));
        due.is("2 the 200th behind a wipe", twice.write('x'), 200);
        due.is("2 the 201st behind a wipe", twice.write('x'), FULL);
    }

    /** "A TEXT is letters (200 at most)": all of the 200 are read. */
    private static void aLaidTextOf200Letters() {
        String full = "g9;w0,1;" + times(63, "f1;") + "f0;";
        due.is("4 letters", full.length(), 200);
        HourGreen g = written(full);
        due.is("4 fault of 200", g.fault(), NONE);
        due.is("5 lay of 200", g.lay(), 1);
        due.is("5 the last item counts", g.count(5), 1);
        due.is("5 the text stays", g.count(10), 200);
        HourGreen cut = written(full.substring(0, 199));
        due.is("4 fault of 199", cut.fault(), 197);
        due.is("5 lay of 199", cut.lay(), NO);
        cut.write(';');
        due.is("4 fault of 200", cut.fault(), NONE);
        // The ; that is wanting can't be written any more.
        HourGreen over = written("g9;w0,10;" + times(63, "f1;") + "f0");
        due.is("2 the 201st letter", over.write(';'), FULL);
        due.is("4 fault of 200", over.fault(), 198);
    }

    /** "THE TEXT is empty: how long it was."; an empty one has no ITEM that is not so. */
    private static void theTextIsEmpty() {
        HourGreen g = new HourGreen();
        due.is("1 no letters", g.count(10), 0);
        due.is("4 fault", g.fault(), NONE);
        due.is("5 lay", g.lay(), NO);
        due.still("3 wipe of nothing", HourGreen::new, HourGreen::wipe, 0);
        g.write('g');
        due.is("4 fault", g.fault(), 0);
        due.is("3 wipe of one", g.wipe(), 1);
        due.is("4 fault", g.fault(), NONE);
        due.is("3 wipe once more", g.wipe(), 0);
    }

    /** "ITEMS one behind the other": nothing stands ahead of them, between them or behind them. */
    private static void itemsOneBehindTheOther() {
        String[] between = {" ", ";", ",", "0", "x", ";;"};
        for (String sign : between) {
            fault(sign + "g9;w0,1;", 0);
            fault("g9;" + sign + "w0,1;", 3);
            fault("g9;w0,1;" + sign, 8);
        }
        fault("g9;w0,1;g9;f0;w0,1;f1;", NONE);
    }

    /** "each a letter": g, h, w or f, as they are told. */
    private static void anItemBeginsWithALetter() {
        for (char letter = 32; letter <= 126; letter++) {
            fault("g9;" + letter + "1;", letter == 'g' || letter == 'f' ? NONE : 3);
            fault("g9;" + letter + "1,1;", letter == 'w' ? NONE : 3);
            fault("g9;" + letter + "1,1,0;", letter == 'h' ? NONE : 3);
            fault("g9;" + letter + ";", 3);
            fault("g9;" + letter, 3);
        }
        fault("g9;h1,1,0,0;", 3);
    }

    /** "then numbers (one or two figures)". */
    private static void oneOrTwoFigures() {
        String[] items = {"g#;", "h#,1,0;", "h1,#,0;", "w#,1;", "w1,#;", "f#;"};
        for (String item : items) {
            String told = "g9;" + item;
            fault(told.replace("#", "1"), NONE);
            fault(told.replace("#", "01"), NONE);
            for (String number : new String[] {"", "001", "1 ", " 1", "+1", "-1", "1.", "x", "1x", "x1", "/", ":", "1/",
                "1:", "100", "0001"}) {
                fault(told.replace("#", number), 3);
            }
        }
        fault("g9;h1,1,0;", NONE);
        fault("g9;h1,1,00;", NONE);
        fault("g9;h1,1,000;", 3);
        fault("g9;h1,1,;", 3);
        fault("g9;g10;", 3);
        fault("g9;w1,10;f10;", NONE);
    }

    /** "parted by , and a ; behind the last one": no other letter stands there. */
    private static void partedByCommas() {
        String text = "g9;h0,1,0;w0,1;f0;";
        int[] begins = {0, 0, 0, 3, 3, 3, 3, 3, 3, 3, 10, 10, 10, 10, 10, 15, 15, 15};
        for (int at = 0; at < text.length(); at++) {
            char there = text.charAt(at);
            if (there == ',' || there == ';') {
                for (char letter = 32; letter <= 126; letter++) {
                    String other = text.substring(0, at) + letter + text.substring(at + 1);
                    fault(other, letter == there ? NONE : begins[at]);
                }
                fault(text.substring(0, at) + text.substring(at + 1), begins[at]);
                fault(text.substring(0, at) + there + text.substring(at), there == ';' ? at + 1 : begins[at]);
            }
        }
    }

    /** "a ; behind the last one": a text that ends within an ITEM has its FAULT where that begins. */
    private static void textsCutOff() {
        String text = "g4;h0,3,0;w1,16;f39;";
        int[] ends = {0, 3, 10, 16, 20};
        int begin = 0;
        for (int length = 0; length <= text.length(); length++) {
            boolean whole = false;
            for (int end : ends) {
                whole |= end == length;
            }
            begin = whole ? length : begin;
            fault(text.substring(0, length), whole ? NONE : begin);
        }
    }

    /** "gD a PLOT with ROOM for D (1 to 9)". */
    private static void roomOf1To9() {
        for (int d = 0; d <= 99; d++) {
            fault("w0,1;g" + d + ";", d >= 1 && d <= 9 ? NONE : 5);
        }
        for (int d = 1; d <= 9; d++) {
            due.is("6 room", Due.laid("g" + d + ";w0,1;").plot(0, 0), d);
        }
        fault("g00;", 0);
    }

    /** "5 at most, 0, 1, .." */
    private static void atMost5Plots() {
        for (int plots = 1; plots <= 5; plots++) {
            HourGreen g = written(times(plots, "g3;") + "w0,1;");
            due.is("4 fault of " + plots + " plots", g.fault(), NONE);
            g.lay();
            due.is("30 plots", g.count(0), plots);
            due.is("6 the last one", g.plot(plots - 1, 0), 3);
            due.is("6 none behind it", g.plot(plots, 0), BAD);
        }
        fault(times(6, "g3;"), 15);
        fault("g1;g2;w0,1;g3;g4;f0;g5;g6;", 23);
        HourGreen g = Due.laid("g9;g7;g5;g3;g1;w0,1;");
        for (int p = 0; p < 5; p++) {
            due.is("6 room of " + p, g.plot(p, 0), 9 - 2 * p);
        }
    }

    /** "an HOUR of KIND K (0 PLAIN, 1 BAD, 2 POOR, 3 STONED)". */
    private static void kindsOf0To3() {
        for (int k = 0; k <= 99; k++) {
            fault("g9;h" + k + ",1,0;", k <= 3 ? NONE : 3);
            fault("g9;w" + k + ",1;", k <= 3 ? NONE : 3);
        }
        for (int k = 0; k <= 3; k++) {
            due.is("7 kind", Due.laid("g9;h" + k + ",1,0;").hour(0, 0), k);
            due.is("7 kind", Due.laid("g9;w" + k + ",1;").hour(0, 0), k);
        }
    }

    /** "WORTH V (1 to 20)". */
    private static void worthOf1To20() {
        for (int v = 0; v <= 99; v++) {
            fault("g9;h0," + v + ",0;", v >= 1 && v <= 20 ? NONE : 3);
            fault("g9;w0," + v + ";", v >= 1 && v <= 20 ? NONE : 3);
        }
        for (int v = 1; v <= 20; v++) {
            due.is("7 worth", Due.laid("g9;h0," + v + ",0;").hour(0, 1), v);
            due.is("7 worth", Due.laid("g9;w0," + v + ";").hour(0, 1), v);
        }
    }

    /** "that lies in PLOT P (told ahead)". */
    private static void aPlotToldAhead() {
        fault("h0,1,0;", 0);
        fault("h0,1,0;g9;", 0);
        for (int plots = 1; plots <= 5; plots++) {
            String ahead = times(plots, "g9;");
            for (int p = 0; p <= 99; p++) {
                fault(ahead + "h0,1," + p + ";", p < plots ? NONE : 3 * plots);
            }
            due.is("7 plot", Due.laid(ahead + "h0,1," + (plots - 1) + ";").hour(0, 2), plots - 1);
        }
        fault("g9;h0,1,1;g9;", 3);
        fault("g9;g9;h0,1,1;", NONE);
    }

    /** "above all that were told to lie there". */
    private static void aboveAllThatWereToldToLieThere() {
        HourGreen g = Due.laid("g9;g9;h0,1,1;h0,2,0;w0,3;h0,4,1;h0,5,0;h0,6,1;");
        int[] beneath = {0, 0, NONE, 1, 1, 2};
        for (int h = 0; h < beneath.length; h++) {
            due.is("7 beneath " + h, g.hour(h, 3), beneath[h]);
        }
        due.is("6 top of 0", g.plot(0, 3), 4);
        due.is("6 top of 1", g.plot(1, 3), 5);
    }

    /** "and fits there": what fills a PLOT is so, what is one more is not. */
    private static void whatFitsThere() {
        for (int d = 1; d <= 6; d++) {
            String full = "g" + d + ";" + times(d, "h0,1,0;");
            fault(full, NONE);
            fault(full + "h0,1,0;", full.length());
            fault(full + "h2,1,0;", full.length());
            fault(full + "h3,1,0;", full.length());
            fault(full + "w0,1;", NONE);
        }
        for (int d = 1; d <= 9; d++) {
            int bad = d / 2;
            String full = "g" + d + ";" + times(bad, "h1,1,0;");
            fault(full, NONE);
            fault(full + "h1,1,0;", full.length());
            fault(full + "h0,1,0;", d % 2 == 1 ? NONE : full.length());
        }
        fault("g1;" + times(7, "h2,1,0;"), NONE);
        fault("g1;" + times(6, "h2,1,0;") + "h0,1,0;", 45);
        fault("g9;h3,1,0;h2,1,0;", 10);
        fault("g9;h2,1,0;h3,1,0;", NONE);
        fault("g1;h3,1,0;", NONE);
    }

    /** "7 at most, 0, 1, .."; "HOURS together": those that lie and those in the PORCH. */
    private static void atMost7Hours() {
        for (int lie = 0; lie <= 7; lie++) {
            String seven = "g9;" + times(lie, "h0,1,0;") + times(7 - lie, "w0,1;");
            fault(seven, NONE);
            fault(seven + "w0,1;", seven.length());
            fault(seven + "h0,1,0;", seven.length());
            fault(seven + "f0;g1;", NONE);
            HourGreen g = Due.laid(seven);
            due.is("30 hours", g.count(1), 7);
            due.is("30 hours that lie", g.count(3), lie);
            due.is("7 the last one", g.hour(6, 1), 1);
            due.is("7 none behind it", g.hour(7, 1), BAD);
        }
        fault("g9;" + times(4, "w0,1;") + times(4, "h0,1,0;"), 44);
        HourGreen g = Due.laid("g9;w0,1;h0,2,0;w0,3;h0,4,0;w0,5;h0,6,0;w0,7;");
        for (int h = 0; h < 7; h++) {
            due.is("7 worth of " + h, g.hour(h, 1), h + 1);
        }
    }

    /** "fY YEAR Y (0 to 39) is one of FROST". */
    private static void frostOfYears0To39() {
        for (int y = 0; y <= 99; y++) {
            fault("g9;f" + y + ";", y <= 39 ? NONE : 3);
        }
        for (int y = 0; y <= 39; y++) {
            HourGreen g = Due.laid("g9;w0,1;f" + y + ";");
            for (int year = 0; year <= 105; year++) {
                due.is("30 frost of " + y + " in " + year, g.count(5), year == y ? 1 : 0);
                g.pass(1);
            }
        }
        StringBuilder all = new StringBuilder("g9;w1,1;");
        for (int y = 0; y <= 39; y++) {
            all.append('f').append(y).append(';');
        }
        HourGreen g = Due.laid(all.toString());
        for (int year = 0; year <= 39; year++) {
            due.is("30 frost in " + year, g.count(5), 1);
            due.is("10 put in " + year, g.put(0, 0), NO);
            g.pass(1);
        }
        due.is("30 frost in 40", g.count(5), 0);
        due.is("10 put in 40", g.put(0, 0), 7);
    }

    /** "(no matter if told once more)". */
    private static void frostToldOnceMore() {
        fault("f7;f7;f07;", NONE);
        HourGreen g = Due.laid("g9;w0,1;f1;f1;f0;f1;");
        due.is("30 frost in 0", g.count(5), 1);
        g.pass(1);
        due.is("30 frost in 1", g.count(5), 1);
        g.pass(1);
        due.is("30 no frost in 2", g.count(5), 0);
    }

    /** "FAULT: the place (from 0 on) of the first letter of the first ITEM that is not so." */
    private static void theFirstFault() {
        fault("g0;g0;", 0);
        fault("g9;g0;g0;", 3);
        fault("g9;h0,1,9;h0,21,0;x", 3);
        fault("g9;h0,1,0;h0,21,0;x", 10);
        fault("f39;f40;f41;", 4);
        // Where it is, not where in the ITEM the fault lies.
        fault("g9;w0,1;h0,20,5;", 8);
        due.still("4 fault changes nothing", () -> written("g9;w0,1;g0;"), HourGreen::fault, 8);
        due.still("4 NONE changes nothing", () -> written("g9;w0,1;"), HourGreen::fault, NONE);
    }

    /** "LAID is a TEXT without FAULT, of a PLOT and an HOUR at least (NO else"; "nothing changes then". */
    private static void aPlotAndAnHourAtLeast() {
        String[] refused = {"", "g9;", "g1;g1;g1;g1;g1;", "w0,1;", "w0,1;w0,1;", "f0;", "g9;f0;", "w0,1;f0;", "x", "g",
            "g9;w0,1;g", "g9;w0,1;w0,0;", "g9;h0,1,1;", "g9;w0,1;f40;"};
        for (String text : refused) {
            due.still("5 lay of " + text, () -> busy(text), HourGreen::lay, NO);
        }
        due.is("5 one that lies", written("g1;h0,1,0;").lay(), 1);
        due.is("5 one in the porch", written("g1;w0,1;").lay(), 1);
        due.is("5 the plot behind it", written("w0,1;g1;").lay(), 1);
        due.is("5 seven", written("g1;" + times(7, "w0,1;")).lay(), 7);
    }

    private static HourGreen busy(String text) {
        HourGreen g = written(text);
        g.pass(3);
        g.keep();
        g.up(0);
        g.dig(1);
        g.seen(1, 2, 0);
        return g;
    }

    /** "at first g4;g3;g5;h0,3,0;h1,7,0;h2,2,1;h2,4,1;h3,9,2;w0,5;w1,6;f2;"; "As told; THE TEXT is empty." */
    private static void laidAtFirst() {
        HourGreen told = Due.laid("g4;g3;g5;h0,3,0;h1,7,0;h2,2,1;h2,4,1;h3,9,2;w0,5;w1,6;f2;");
        told.wipe();
        int[] want = Whole.of(told);
        int[] got = Whole.of(new HourGreen());
        due.is("1 answers", got.length, want.length);
        for (int i = 0; i < Math.min(got.length, want.length); i++) {
            due.is("1 answer " + i, got[i], want[i]);
        }
        HourGreen other = new HourGreen();
        other.up(0);
        due.is("1 another object is another green", new HourGreen().hour(0, 2), 0);
    }

    /** "YEAR 0, nothing STIRRED, SEEN, UNDONE, KEPT (THE TEXT stays)". */
    private static void laidAnew() {
        HourGreen g = busy("g9;h0,1,0;h0,2,0;");
        // What was asked of the green ahead is no matter either.
        g.decade(0, 60, 2);
        g.behind(60, 1);
        g.plots(0);
        due.is("5 lay", g.lay(), 2);
        int[] counts = {1, 2, 0, 2, 3, 0, 0, 0, 0, 0, 17};
        for (int what = 0; what < counts.length; what++) {
            due.is("5 count(" + what + ")", g.count(what), counts[what]);
        }
        due.is("5 nothing to undo", g.undo(), NO);
        due.is("5 nothing kept", g.back(), NO);
        g.up(0);
        due.is("5 lay once more", g.lay(), 2);
        due.is("5 it lies as told", g.hour(1, 3), 1);
        due.is("5 nothing stirred", g.count(6), 0);
        HourGreen frost = Due.laid("g9;w0,1;f0;f1;");
        frost.wipe();
        Due.write(frost, "g9;w0,1;");
        frost.behind(60, 0);
        frost.lay();
        due.is("5 no frost of before", frost.count(5), 0);
        // What is full is empty again.
        for (int i = 0; i < 8; i++) {
            g.pass(1);
            g.seen(0, 0, 0);
            g.keep();
        }
        due.is("5 seen is full", g.seen(0, 0, 0), FULL);
        due.is("5 kept is full", g.keep(), FULL);
        g.lay();
        due.is("5 one is seen", g.seen(0, 0, 0), 1);
        due.is("5 one is kept", g.keep(), 1);
        g.pass(1);
        due.is("5 one can be undone", g.undo(), 0);
    }
}
