import java.util.Random;

/** All promises: long runs of calls by chance (of a fixed seed), held against the slow telling of the document. */
public final class SlowGreenTest {
    private static final String[] NAMES = {"write", "wipe", "fault", "lay", "plot", "hour", "fits", "pass", "put", "up",
        "dig", "undo", "out", "behind", "above", "packs", "stir", "cheap", "deeper", "years", "seen", "forget", "plots",
        "kinds", "likely", "decade", "keep", "back", "count"};
    private static final int RUNS = 600, CALLS = 300;
    private static int wrong;

    public static void main(String[] args) {
        for (int run = 0; run < RUNS && wrong < 20; run++) {
            run(run, new Random(run));
        }
        System.out.println(wrong == 0 ? "all answers are as due" : wrong + " answers are not as due");
        if (wrong != 0) {
            System.exit(1);
        }
    }

    private static void run(int run, Random chance) {
        HourGreen fast = new HourGreen();
        SlowGreen slow = new SlowGreen();
        if (chance.nextInt(8) != 0) {
            String text = text(chance);
            for (int i = 0; i < text.length(); i++) {
                same(run, text, fast.write(text.charAt(i)), slow.write(text.charAt(i)));
            }
            same(run, "fault of " + text, fast.fault(), slow.fault());
            same(run, "lay of " + text, fast.lay(), slow.lay());
        }
        for (int i = 0; i < CALLS && wrong < 20; i++) {
            int name = chance.nextInt(3) == 0 ? 7 + chance.nextInt(5) : chance.nextInt(NAMES.length);
            if ((name <= 3 || name == 21) && chance.nextInt(4) != 0) {
                continue;
            }
            int[] a = arguments(name, chance);
            String call = NAMES[name] + "(" + a[0] + ", " + a[1] + ", " + a[2] + ", " + a[3] + ")";
            same(run, call, ofFast(fast, name, a), ofSlow(slow, name, a));
        }
    }

    private static void same(int run, String call, int got, int want) {
        if (got != want) {
            wrong++;
            System.out.println("run " + run + ": " + call + " answered " + got + ", due is " + want);
        }
    }

    /** A number that is mostly one of those told, now and then one at or beyond their edges. */
    private static int near(Random chance, int least, int most) {
        switch (chance.nextInt(24)) {
            case 0: return least - 1;
            case 1: return most + 1;
            case 2: return least;
            case 3: return most;
            case 4: return chance.nextInt(8) == 0 ? chance.nextInt() : least;
            default: return least + chance.nextInt(most - least + 1);
        }
    }

    private static String text(Random chance) {
        StringBuilder text = new StringBuilder();
        int plots = 1 + chance.nextInt(5);
        int room = 1 + chance.nextInt(9);
        for (int p = 0; p < plots; p++) {
            text.append('g').append(1 + chance.nextInt(room)).append(';');
        }
        int hours = 1 + chance.nextInt(7);
        boolean lie = chance.nextInt(4) != 0;
        int worth = 1 + chance.nextInt(20);
        for (int h = 0; h < hours; h++) {
            String told = chance.nextInt(4) + "," + (1 + chance.nextInt(worth));
            String item = "h" + told + "," + chance.nextInt(plots) + ";";
            boolean so = lie && chance.nextInt(4) != 0 && Due.faultOf(text + item) == HourGreen.NONE;
            text.append(so ? item : "w" + told + ";");
        }
        for (int i = chance.nextInt(4); i > 0; i--) {
            text.append('f').append(chance.nextInt(chance.nextBoolean() ? 5 : 40)).append(';');
        }
        if (chance.nextInt(6) == 0) {
            String signs = "ghwf0123459,;x ";
            text.setCharAt(chance.nextInt(text.length()), signs.charAt(chance.nextInt(signs.length())));
        }
        return text.toString();
    }

    private static int[] arguments(int name, Random chance) {
        int h = near(chance, 0, 6);
        int p = near(chance, 0, 4);
        switch (NAMES[name]) {
            case "write": return new int[] {"ghwf0123,;;".charAt(chance.nextInt(11)), 0, 0, 0};
            case "plot": return new int[] {p, near(chance, 0, 3), 0, 0};
            case "hour": return new int[] {h, near(chance, 0, 4), 0, 0};
            case "pass": return new int[] {chance.nextInt(3) == 0 ? near(chance, 1, 20) : 1, 0, 0, 0};
            case "behind": return new int[] {near(chance, 0, 60), h, 0, 0};
            case "packs": return new int[] {near(chance, -1, 6), 0, 0, 0};
            case "stir": return new int[] {near(chance, 0, 127), 0, 0, 0};
            case "cheap": return new int[] {near(chance, 1, chance.nextInt(4) == 0 ? 140 : 40), near(chance, 0, 1), 0, 0};
            case "deeper": return new int[] {near(chance, 0, 1), 0, 0, 0};
            case "years": return new int[] {near(chance, 1, 20), 0, 0, 0};
            case "seen": return new int[] {near(chance, 0, 20), h, near(chance, 0, 1), 0};
            case "likely": return new int[] {h, near(chance, 0, 8), near(chance, 0, 10), near(chance, 0, 1)};
            case "decade": return new int[] {near(chance, 0, 9999), near(chance, 1, 60), near(chance, 0, 2), 0};
            case "count": return new int[] {near(chance, 0, 10), 0, 0, 0};
            case "dig": return new int[] {p, 0, 0, 0};
            default: return new int[] {h, p, 0, 0};
        }
    }

    private static int ofFast(HourGreen g, int name, int[] a) {
        switch (NAMES[name]) {
            case "write": return g.write(a[0]);
            case "wipe": return g.wipe();
            case "fault": return g.fault();
            case "lay": return g.lay();
            case "plot": return g.plot(a[0], a[1]);
            case "hour": return g.hour(a[0], a[1]);
            case "fits": return g.fits(a[0], a[1]);
            case "pass": return g.pass(a[0]);
            case "put": return g.put(a[0], a[1]);
            case "up": return g.up(a[0]);
            case "dig": return g.dig(a[0]);
            case "undo": return g.undo();
            case "out": return g.out(a[0]);
            case "behind": return g.behind(a[0], a[1]);
            case "above": return g.above(a[0]);
            case "packs": return g.packs(a[0]);
            case "stir": return g.stir(a[0]);
            case "cheap": return g.cheap(a[0], a[1]);
            case "deeper": return g.deeper(a[0]);
            case "years": return g.years(a[0]);
            case "seen": return g.seen(a[0], a[1], a[2]);
            case "forget": return g.forget();
            case "plots": return g.plots(a[0]);
            case "kinds": return g.kinds(a[0]);
            case "likely": return g.likely(a[0], a[1], a[2], a[3]);
            case "decade": return g.decade(a[0], a[1], a[2]);
            case "keep": return g.keep();
            case "back": return g.back();
            default: return g.count(a[0]);
        }
    }

    private static int ofSlow(SlowGreen g, int name, int[] a) {
        switch (NAMES[name]) {
            case "write": return g.write(a[0]);
            case "wipe": return g.wipe();
            case "fault": return g.fault();
            case "lay": return g.lay();
            case "plot": return g.plot(a[0], a[1]);
            case "hour": return g.hour(a[0], a[1]);
            case "fits": return g.fits(a[0], a[1]);
            case "pass": return g.pass(a[0]);
            case "put": return g.put(a[0], a[1]);
            case "up": return g.up(a[0]);
            case "dig": return g.dig(a[0]);
            case "undo": return g.undo();
            case "out": return g.out(a[0]);
            case "behind": return g.behind(a[0], a[1]);
            case "above": return g.above(a[0]);
            case "packs": return g.packs(a[0]);
            case "stir": return g.stir(a[0]);
            case "cheap": return g.cheap(a[0], a[1]);
            case "deeper": return g.deeper(a[0]);
            case "years": return g.years(a[0]);
            case "seen": return g.seen(a[0], a[1], a[2]);
            case "forget": return g.forget();
            case "plots": return g.plots(a[0]);
            case "kinds": return g.kinds(a[0]);
            case "likely": return g.likely(a[0], a[1], a[2], a[3]);
            case "decade": return g.decade(a[0], a[1], a[2]);
            case "keep": return g.keep();
            case "back": return g.back();
            default: return g.count(a[0]);
        }
    }
}
