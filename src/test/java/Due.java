/** Holds answers against what is due, and makes objects in few words. */
final class Due {
    private int wrong = 0;
    private int promise = 0;

    void promise(int number) {
        promise = number;
    }

    void is(String call, long got, long want) {
        if (got != want) {
            wrong++;
            System.out.println("promise " + promise + ": " + call + " answered " + got
                    + ", due is " + want);
        }
    }

    /** Refused for this reason, and counted so: the count must have been so many. */
    void refused(TheOneWithout x, String call, long got, int want, int count) {
        is(call, got, want);
        is(call + ", refusals of " + want, x.status(10 - want), count);
    }

    void end() {
        if (wrong != 0) {
            System.out.println(wrong + " answers are not as due");
            System.exit(1);
        }
    }

    static void feed(TheOneWithout x, String text) {
        for (int i = 0; i < text.length(); i++) {
            x.feed(text.charAt(i));
        }
    }

    static int stair(TheOneWithout x, String text) {
        feed(x, text);
        return x.stair();
    }

    static TheOneWithout tray(String text) {
        TheOneWithout x = new TheOneWithout();
        int read = stair(x, text);
        if (read < 1) {
            throw new IllegalStateException(text + " answered " + read);
        }
        return x;
    }

    static void row(TheOneWithout x, int s, int sort, long... elements) {
        x.row(s, sort, elements.length);
        for (int i = 0; i < elements.length; i++) {
            x.set(s, i, elements[i]);
        }
    }
}
