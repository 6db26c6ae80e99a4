/** All that a green answers, down to what can be undone, what is kept and what is written. */
final class Whole {
    private static final int MOST_CALLS = 512;

    private final HourGreen green;
    private final int[] told = new int[MOST_CALLS];
    private int length;

    private Whole(HourGreen green) {
        this.green = green;
    }

    /** Some 410 calls at most; the green is used up by them, for it is undone, brought back and laid. */
    static int[] of(HourGreen green) {
        Whole whole = new Whole(green);
        whole.questions();
        whole.allUndone();
        whole.allKept();
        whole.theText();
        return java.util.Arrays.copyOf(whole.told, whole.length);
    }

    private int tell(int answer) {
        told[length] = answer;
        length++;
        return answer;
    }

    private void questions() {
        brief();
        tell(green.fault());
        tell(green.packs(-1));
        tell(green.years(20));
        tell(green.decade(1, 60, 0));
        int plots = green.count(0);
        for (int p = 0; p < plots; p++) {
            for (int what = 1; what < 4; what++) {
                tell(green.plot(p, what));
            }
        }
        int hours = green.count(1);
        for (int h = 0; h < hours; h++) {
            tell(green.hour(h, 0));
            tell(green.hour(h, 1));
            tell(green.out(h));
            tell(green.plots(h));
            tell(green.kinds(h));
        }
    }

    private void brief() {
        for (int what = 2; what <= 10; what++) {
            tell(green.count(what));
        }
        int plots = tell(green.count(0));
        for (int p = 0; p < plots; p++) {
            tell(green.plot(p, 0));
        }
        int hours = tell(green.count(1));
        for (int h = 0; h < hours; h++) {
            tell(green.hour(h, 2));
            tell(green.hour(h, 3));
        }
    }

    private void allUndone() {
        for (int i = 0; i < 9 && tell(green.undo()) >= 0; i++) {
            brief();
        }
    }

    private void allKept() {
        for (int i = 0; i < 3 && tell(green.back()) >= 0; i++) {
            brief();
        }
    }

    private void theText() {
        tell(green.lay());
        brief();
        tell(green.wipe());
    }
}
