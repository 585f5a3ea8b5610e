import java.util.List;

/** Holds answers against what is due, and makes objects in few words. */
final class Due {
    private static final int BAD = -2;
    private static final int FULL = -6;
    private static final int LONGEST_MINUTES = 5;

    private int wrong = 0;
    private int promise = 0;

    /** Makes the same object each time. */
    interface Scene {
        TheOneWithout make();
    }

    /** One call on an object. */
    interface Call {
        long on(TheOneWithout x);
    }

    Due() {
        watch();
    }

    /** A call that fails to end must fail the test, too. */
    static void watch() {
        Thread watcher = new Thread(() -> {
            try {
                Thread.sleep(LONGEST_MINUTES * 60_000L);
            } catch (InterruptedException e) {
                return;
            }
            System.out.println("a call has not ended in " + LONGEST_MINUTES + " minutes");
            Runtime.getRuntime().halt(1);
        });
        watcher.setDaemon(true);
        watcher.start();
    }

    void promise(int number) {
        promise = number;
    }

    void is(String word, long got, long want) {
        if (got != want) {
            no(word + " answered " + got + ", due is " + want);
        }
    }

    void no(String what) {
        wrong++;
        System.out.println("promise " + promise + ": " + what);
    }

    /** Refused for this reason, and counted so: the count must have been so many. */
    void refused(TheOneWithout x, String call, long got, int want, int count) {
        is(call, got, want);
        is(call + ", refusals of " + want, x.status(10 - want), count);
    }

    /** The call is refused for this reason, which is counted once, and nothing else changes. */
    void refused(String word, Scene scene, Call call, int want) {
        TheOneWithout x = scene.make();
        is(word, call.on(x), want);
        isLikeTwin(word, x, scene.make(), want);
    }

    /** The call answers so, nothing is refused, and nothing changes. */
    void asked(String word, Scene scene, Call call, long want) {
        TheOneWithout x = scene.make();
        is(word, call.on(x), want);
        isLikeTwin(word, x, scene.make(), 0);
    }

    /** All is as with the twin, but one more refusal of this number (0: none). */
    void isLikeTwin(String word, TheOneWithout x, TheOneWithout twin, int refusal) {
        for (int number = BAD; number >= FULL; number--) {
            int more = number == refusal ? 1 : 0;
            is(word + ": refusals " + number, x.status(10 - number),
                    twin.status(10 - number) + more);
        }
        List<String> seen = Scenes.all(x);
        List<String> due = Scenes.all(twin);
        for (int i = 0; i < Math.max(seen.size(), due.size()); i++) {
            String one = i < seen.size() ? seen.get(i) : "nothing";
            String other = i < due.size() ? due.get(i) : "nothing";
            if (!one.equals(other)) {
                no(word + ": behind it " + one + ", ahead of it " + other);
                return;
            }
        }
    }

    void end() {
        if (wrong != 0) {
            System.out.println(wrong + " answers are not as due");
            System.exit(1);
        }
    }

    static void feed(TheOneWithout x, String text) {
        for (int i = 0; i < text.length(); i++) {
            x.feed(text.charAt(i));
        }
    }

    static int stair(TheOneWithout x, String text) {
        feed(x, text);
        return x.stair();
    }

    static TheOneWithout tray(String text) {
        TheOneWithout x = new TheOneWithout();
        int read = stair(x, text);
        if (read < 1) {
            throw new IllegalStateException(text + " answered " + read);
        }
        return x;
    }

    static void row(TheOneWithout x, int s, int sort, long... elements) {
        x.row(s, sort, elements.length);
        for (int i = 0; i < elements.length; i++) {
            x.set(s, i, elements[i]);
        }
    }
}
