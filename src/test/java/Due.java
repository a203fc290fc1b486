/** Tells the answers that are not the ones due, and ends a test with code 1 if there was one. */
final class Due {
    private static int asked = 0;
    private static int wrong = 0;

    private Due() {
    }

    static void is(String call, long got, long due) {
        asked++;
        if (got != due) {
            wrong++;
            System.out.println(call + " answered " + got + ", due is " + due);
        }
    }

    static void isTrue(String what, boolean holds) {
        is(what, holds ? 1 : 0, 1);
    }

    /** What element answers, or which exception it throws, as one text. */
    static String element(OfficeLadder x, int d, int i) {
        try {
            return Long.toString(x.element(d, i));
        } catch (IllegalArgumentException e) {
            return "throws.IllegalArgumentException";
        } catch (IllegalStateException e) {
            return "throws.IllegalStateException";
        }
    }

    static void element(OfficeLadder x, int d, int i, String due) {
        String got = element(x, d, i);
        asked++;
        if (!got.equals(due)) {
            wrong++;
            System.out.println("element(" + d + ", " + i + ") answered " + got + ", due is " + due);
        }
    }

    static void end() {
        System.out.println(wrong == 0 ? asked + " answers are as due" : wrong + " answers of " + asked + " are not as due");
        if (wrong != 0) {
            System.exit(1);
        }
    }
}
