import java.util.Arrays;
import java.util.function.Supplier;
import java.util.function.ToIntFunction;

/** Counts the answers of one test that are not as due. */
final class Due {
    private int wrong;

    void is(String call, int got, int want) {
        if (got != want) {
            wrong++;
            System.out.println(call + " answered " + got + ", due is " + want);
        }
    }

    /** The call answers so, and all that the green answers is as on a twin that was never called. */
    void still(String call, Supplier<HourGreen> made, ToIntFunction<HourGreen> called, int want) {
        HourGreen green = made.get();
        is(call, called.applyAsInt(green), want);
        if (!Arrays.equals(Whole.of(green), Whole.of(made.get()))) {
            wrong++;
            System.out.println(call + " changed something");
        }
    }

    /** Ends the program with exit code 1 if an answer was wrong. */
    void end() {
        System.out.println(wrong == 0 ? "all answers are as due" : wrong + " answers are not as due");
        if (wrong != 0) {
            System.exit(1);
        }
    }

    static void write(HourGreen green, String text) {
        for (int i = 0; i < text.length(); i++) {
            green.write(text.charAt(i));
        }
    }

    static HourGreen laid(String text) {
        HourGreen green = new HourGreen();
        write(green, text);
        if (green.lay() < 0) {
            throw new IllegalStateException("a test lays a text with a fault: " + text);
        }
        return green;
    }

    static int faultOf(String text) {
        HourGreen green = new HourGreen();
        write(green, text);
        return green.fault();
    }
}
