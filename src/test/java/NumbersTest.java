import java.util.ArrayList;
import java.util.List;

/**
 * "BAD: a number is none that is told (PLOTS, HOURS, sets of these: such as there are)", and the numbers that each of
 * the promises tells: the first and the last of each are taken, those next to them are not, and nothing changes then.
 */
public final class NumbersTest {
    private static final Due due = new Due();
    private static final String[] TEXTS = {
        "g1;w0,1;",
        "g9;g9;h0,1,0;h1,2,1;f0;",
        "g4;g3;g5;h0,3,0;h1,7,0;h2,2,1;h2,4,1;h3,9,2;",
        "g9;g9;g9;g9;g9;h0,1,0;h0,2,1;h0,3,2;h0,4,3;h0,5,4;h0,6,4;h0,7,4;"
    };

    private interface Call {
        int on(HourGreen green, int[] a);
    }

    /** A call with the least and the most that each of its numbers may be. */
    private static final class Told {
        final String name;
        final int[] limits;
        final Call call;

        Told(String name, Call call, int... limits) {
            this.name = name;
            this.call = call;
            this.limits = limits;
        }
    }

    public static void main(String[] args) {
        for (String text : TEXTS) {
            HourGreen g = Due.laid(text);
            for (Told told : calls(g.count(0), g.count(1))) {
                takesAllThatAreTold(text, told);
                takesNoOthers(text, told);
            }
        }
        due.end();
    }

    private static List<Told> calls(int plots, int hours) {
        int p = plots - 1;
        int h = hours - 1;
        List<Told> all = new ArrayList<>();
        all.add(new Told("2 write", (g, a) -> g.write(a[0]), 32, 126));
        all.add(new Told("6 plot", (g, a) -> g.plot(a[0], a[1]), 0, p, 0, 3));
        all.add(new Told("7 hour", (g, a) -> g.hour(a[0], a[1]), 0, h, 0, 4));
        all.add(new Told("8 fits", (g, a) -> g.fits(a[0], a[1]), 0, h, 0, p));
        all.add(new Told("9 pass", (g, a) -> g.pass(a[0]), 1, 20));
        all.add(new Told("10 put", (g, a) -> g.put(a[0], a[1]), 0, h, 0, p));
        all.add(new Told("11 up", (g, a) -> g.up(a[0]), 0, h));
        all.add(new Told("12 dig", (g, a) -> g.dig(a[0]), 0, p));
        all.add(new Told("14 out", (g, a) -> g.out(a[0]), 0, h));
        all.add(new Told("15 behind", (g, a) -> g.behind(a[0], a[1]), 0, 60, 0, h));
        all.add(new Told("16 above", (g, a) -> g.above(a[0]), 0, h));
        all.add(new Told("17 packs", (g, a) -> g.packs(a[0]), -1, h));
        all.add(new Told("18 stir", (g, a) -> g.stir(a[0]), 0, (1 << hours) - 1));
        all.add(new Told("19 cheap", (g, a) -> g.cheap(a[0], a[1]), 1, 140, 0, 1));
        all.add(new Told("20 deeper", (g, a) -> g.deeper(a[0]), 0, 1));
        all.add(new Told("21 years", (g, a) -> g.years(a[0]), 1, 20));
        all.add(new Told("22 seen", (g, a) -> g.seen(a[0], a[1], a[2]), 0, 20, 0, h, 0, 1));
        all.add(new Told("24 plots", (g, a) -> g.plots(a[0]), 0, h));
        all.add(new Told("25 kinds", (g, a) -> g.kinds(a[0]), 0, h));
        all.add(new Told("26 likely", (g, a) -> g.likely(a[0], a[1], a[2], a[3]), 0, h, 0, 8, 0, 10, 0, 1));
        all.add(new Told("27 decade", (g, a) -> g.decade(a[0], a[1], a[2]), 0, 9999, 1, 60, 0, 2));
        all.add(new Told("30 count", (g, a) -> g.count(a[0]), 0, 10));
        return all;
    }

    private static int[] firstOnes(Told told) {
        int[] a = new int[told.limits.length / 2];
        for (int i = 0; i < a.length; i++) {
            a[i] = told.limits[2 * i];
        }
        return a;
    }

    private static int[] lastOnes(Told told) {
        int[] a = new int[told.limits.length / 2];
        for (int i = 0; i < a.length; i++) {
            a[i] = told.limits[2 * i + 1];
        }
        return a;
    }

    private static String named(Told told, int[] a, String text) {
        StringBuilder name = new StringBuilder(told.name).append('(');
        for (int i = 0; i < a.length; i++) {
            name.append(i == 0 ? "" : ", ").append(a[i]);
        }
        return name.append(") of ").append(text).toString();
    }

    private static void takesAllThatAreTold(String text, Told told) {
        for (int[] a : new int[][] {firstOnes(told), lastOnes(told)}) {
            for (int i = 0; i < a.length; i++) {
                int most = told.limits[2 * i + 1];
                int step = most > 1000 ? 1111 : 1;
                int was = a[i];
                for (int number = told.limits[2 * i]; number <= most; number += step) {
                    a[i] = number;
                    boolean bad = told.call.on(Due.laid(text), a) == HourGreen.BAD;
                    due.is(named(told, a, text) + " is BAD", bad ? 1 : 0, 0);
                }
                a[i] = was;
            }
        }
    }

    private static void takesNoOthers(String text, Told told) {
        for (int[] a : new int[][] {firstOnes(told), lastOnes(told)}) {
            for (int i = 0; i < a.length; i++) {
                int least = told.limits[2 * i];
                int most = told.limits[2 * i + 1];
                int was = a[i];
                // Also numbers that would be of those told, were they cut to fewer bits.
                int[] others = {least - 1, most + 1, least - 2, most + 2, least - 100, most + 100, least - 256,
                    least + 65536, Integer.MIN_VALUE, Integer.MIN_VALUE + least + 1, Integer.MAX_VALUE};
                for (int other : others) {
                    a[i] = other;
                    due.still(named(told, a, text), () -> busy(text), g -> told.call.on(g, a), HourGreen.BAD);
                }
                a[i] = was;
            }
        }
    }

    /** A green of which something was done, seen, kept and written, so that a change of any would show. */
    private static HourGreen busy(String text) {
        HourGreen green = Due.laid(text);
        green.write('x');
        green.pass(1);
        green.dig(0);
        green.keep();
        green.up(0);
        green.seen(2, 0, 0);
        return green;
    }
}
