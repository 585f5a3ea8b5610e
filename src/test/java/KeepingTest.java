/** Promises 43 to 45: an image, back to it, and the status. */
public final class KeepingTest {
    private static final Due DUE = new Due();
    private static final String KEPT = "cups 4;law 2;pour 0 1 2 3;sort 1 5 6 7;guest 0 1 9;"
            + "sign 0 3 1";

    public static void main(String[] args) {
        backToAll();
        backTwice();
        whatIsNotKept();
        shelvesWithTellers();
        backRefused();
        eachChangeIsUndone();
        whatStays();
        status();
        DUE.end();
    }

    private static TheOneWithout kept() {
        TheOneWithout x = Due.tray(KEPT);
        x.teller(3, 6);
        x.seed(99);
        Due.row(x, 0, 0, 1, 0, 2, 3);
        x.truth(0);
        x.sign(0, 3, 1);
        return x;
    }

    private static void isAsKept(TheOneWithout x) {
        DUE.is("cups", x.status(0), 4);
        DUE.is("law", x.status(1), 2);
        DUE.is("tellers", x.status(2), 1);
        DUE.is("signs", x.status(3), 1);
        DUE.is("unlike sorts", x.status(4), 4);
        DUE.is("seed", x.status(6), 99);
        DUE.is("worlds(0)", x.worlds(0), 24);
        DUE.is("worlds(1)", x.worlds(1), 6);
        DUE.is("known()", x.known(), 1);
        DUE.is("split(1, 1, 0)", x.split(1, 1, 0), 1);
        DUE.is("mind(0, 1)", x.mind(0, 1), 6);
        DUE.is("best(NONE)", x.best(-1), 0);
        Due.row(x, 6, 0, 1, 0, 2, 3);
        DUE.is("all that guest 0 minds", x.handing(6, 2), 9);
        x.show(6, -1);
        DUE.is("stands(0)", x.stands(0), 1);
        DUE.is("stands(1)", x.stands(1), 0);
        DUE.is("turned()", x.turned(), -1);
        DUE.is("tells(0)", x.tells(0), 0);
        DUE.is("sort(1, 2, 7)", x.sort(1, 2, 7), 7);
    }

    private static void changeAll(TheOneWithout x) {
        x.sort(1, 2, 3);
        x.guest(0, 2, 3);
        x.cups(6);
        x.law(0);
        x.teller(2, 1);
        x.stairs();
        Due.stair(x, "pour 4 5 4 5 4 5;sign 0 3 4;sign 1 3 5");
        x.worlds(1);
    }

    private static void backToAll() {
        DUE.promise(43);
        TheOneWithout x = kept();
        DUE.is("image()", x.image(), 1);
        isAsKept(x);
        changeAll(x);
        DUE.is("cups", x.status(0), 6);
        DUE.promise(44);
        DUE.is("back()", x.back(), 1);
        isAsKept(x);
        DUE.is("teller(1, 1)", x.teller(1, 1), 1);
        x.show(7, 0);
        DUE.is("says(7, 0)", x.says(7, 0), 6);
    }

    private static void backTwice() {
        TheOneWithout x = kept();
        x.image();
        changeAll(x);
        x.back();
        changeAll(x);
        DUE.is("back() again", x.back(), 1);
        isAsKept(x);
        x.cups(2);
        DUE.promise(43);
        DUE.is("a later image", x.image(), 1);
        x.cups(3);
        x.back();
        DUE.is("is what is kept", x.status(0), 2);
    }

    private static void whatIsNotKept() {
        DUE.promise(44);
        TheOneWithout x = kept();
        x.cups(9);
        Due.feed(x, "law");
        x.image();
        Due.feed(x, " 1");
        x.row(1, 2, 3);
        x.set(0, 0, 44);
        x.cups(9);
        x.tells(9);
        x.back();
        DUE.is("the tape", x.status(5), 5);
        DUE.is("shelves", x.status(7), 2);
        DUE.is("element(0, 0)", x.element(0, 0), 44);
        DUE.is("refusals", x.status(12), 3);
        DUE.is("stair()", x.stair(), 1);
        DUE.is("status(1)", x.status(1), 1);
    }

    private static void shelvesWithTellers() {
        DUE.promise(44);
        TheOneWithout x = new TheOneWithout();
        x.teller(1, 3);
        x.show(0, 0);
        x.image();
        x.teller(2, 4);
        x.show(1, 1);
        x.show(2, 0);
        x.row(3, 4, 1);
        x.show(0, 1);
        x.back();
        DUE.is("a teller that isn't", x.holds(0), -1);
        DUE.is("a teller that isn't", x.holds(1), -1);
        DUE.is("a teller that is", x.holds(2), 10);
        DUE.is("a row", x.holds(3), 4);
        DUE.is("says(2, 0)", x.says(2, 0), 3);
        DUE.is("says(1, 0)", x.says(1, 0), -4);
        DUE.is("show(1, 1)", x.show(1, 1), -2);
        DUE.is("the next teller", x.teller(5, 8), 1);
        DUE.is("comes to no shelf by itself", x.holds(1), -1);
    }

    /** Behind image, one change and back all is as behind image alone, with 2 to 6 cups. */
    private static void eachChangeIsUndone() {
        for (int n = 2; n <= 6; n++) {
            int last = n - 1;
            undone(n, "cups", x -> x.cups(last == 1 ? 6 : last));
            undone(n, "cups, as many", x -> x.cups(last + 1));
            undone(n, "pour", x -> x.pour(Scenes.WORLD));
            undone(n, "law", x -> x.law(0));
            for (int sort = 0; sort < 6; sort++) {
                for (int what = 0; what < 3; what++) {
                    int s = sort;
                    int w = what;
                    undone(n, "sort " + s + " " + w, x -> x.sort(s, w, 8));
                }
            }
            for (int guest = 0; guest < n; guest++) {
                int g = guest;
                undone(n, "WANTS of " + g, x -> x.guest(g, 5, 3 + g));
                undone(n, "MINDS of " + g, x -> x.guest(g, g == 1 ? -1 : (g + 1) % 4, 9 - g));
            }
            undone(n, "teller", x -> x.teller(4, 4));
            undone(n, "sign", x -> x.sign(last, 2, 5));
            undone(n, "forget", x -> x.forget());
            undone(n, "look", x -> x.look(last, 3));
            undone(n, "tries", x -> x.tries(0));
            undone(n, "stairs", x -> x.stairs());
            undone(n, "truth", x -> x.truth(Scenes.WORLD));
            undone(n, "seed", x -> x.seed(77));
            undone(n, "image and back", x -> x.image() + x.back());
        }
    }

    private static void undone(int n, String word, Due.Call change) {
        DUE.promise(44);
        TheOneWithout twin = Scenes.full(n);
        twin.image();
        TheOneWithout x = Scenes.full(n);
        x.image();
        change.on(x);
        DUE.is("back() behind " + word + " of " + n, x.back(), 1);
        DUE.isLikeTwin("back() behind " + word + " of " + n, x, twin, 0);
        // changed first, so that the image has it
        DUE.promise(43);
        twin = Scenes.full(n);
        change.on(twin);
        x = Scenes.full(n);
        change.on(x);
        DUE.is("image() behind " + word + " of " + n, x.image(), 1);
        DUE.is("back() to " + word + " of " + n, x.back(), 1);
        twin.image();
        DUE.isLikeTwin("back() to " + word + " of " + n, x, twin, 0);
    }

    /** THE TAPE, SHELVES with ROWS and REFUSALS are not kept. */
    private static void whatStays() {
        DUE.promise(44);
        stays("feed", x -> x.feed('1'));
        stays("wipe", x -> x.wipe());
        stays("row", x -> x.row(Scenes.LONG, 2, 7));
        stays("row over a TELLER", x -> x.row(Scenes.HANDER, 2, 7));
        stays("set", x -> x.set(Scenes.SHORT, 0, 7));
        stays("copy", x -> x.copy(Scenes.HANDING, Scenes.HANDING, 0, 1, 2));
        stays("show", x -> x.show(Scenes.EMPTY, 2));
        stays("show of another", x -> x.show(Scenes.HANDER, 0));
        stays("show NONE", x -> x.show(Scenes.HANDER, -1));
        stays("a refusal, BAD", x -> x.cups(0));
        stays("a refusal, OTHER", x -> x.set(Scenes.HANDER, 0, 0));
        stays("a refusal, NOTHING", x -> x.set(Scenes.EMPTY, 0, 0));
        stays("a refusal, STUCK", x -> x.handing(Scenes.WRONG, 0));
    }

    private static void stays(String word, Due.Call change) {
        TheOneWithout x = Scenes.full();
        x.image();
        change.on(x);
        x.back();
        TheOneWithout twin = Scenes.full();
        change.on(twin);
        twin.image();
        DUE.isLikeTwin("back() behind " + word, x, twin, 0);
    }

    private static void backRefused() {
        DUE.promise(44);
        TheOneWithout x = new TheOneWithout();
        x.cups(3);
        DUE.refused(x, "back()", x.back(), -5, 1);
        DUE.is("nothing changes", x.status(0), 3);
        x.image();
        DUE.is("back()", x.back(), 1);
        DUE.is("status(15)", x.status(15), 1);
    }

    private static void status() {
        DUE.promise(45);
        TheOneWithout x = Due.tray("cups 4;law 2;pour 5 0 5 1;sign 0 3 5;sign 1 3 0;sign 2 3 5");
        x.teller(0, 0);
        x.teller(0, 0);
        x.row(0, 0, 0);
        x.row(7, 0, 0);
        x.show(3, 1);
        x.show(4, -1);
        x.seed(-5);
        Due.feed(x, "law");
        int[] due = {4, 2, 2, 3, 3, 3, -5, 3};
        for (int what = 0; what < due.length; what++) {
            DUE.is("status(" + what + ")", x.status(what), due[what]);
        }
        int[] none = {-1, 8, 9, 10, 11, 17, 18, Integer.MAX_VALUE, Integer.MIN_VALUE, -2};
        for (int what : none) {
            DUE.is("status(" + what + ")", x.status(what), -1);
        }
        DUE.is("NONE isn't refused", x.status(12), 0);
        x.worlds(5);
        x.set(3, 0, 0);
        x.set(3, 0, 0);
        x.pour(1);
        x.pour(1);
        x.pour(1);
        x.back();
        x.back();
        x.back();
        x.back();
        for (int i = 0; i < 5; i++) {
            x.teller(0, 0);
        }
        int[] refused = {1, 2, 3, 4, 3};
        for (int what = 12; what <= 16; what++) {
            DUE.is("status(" + what + ")", x.status(what), refused[what - 12]);
        }
        x.show(3, -1);
        DUE.is("shelves", x.status(7), 2);
    }
}
