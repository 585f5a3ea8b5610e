/**
 * The answers NONE (and 0) that are not refused: no refusal is counted, and nothing changes. Also
 * what is asked where there is no possible world, or but one.
 */
public final class NoneTest {
    private static final Due DUE = new Due();
    private static final int NONE = TheOneWithout.NONE;
    private static final int[] FAR = {Integer.MIN_VALUE, Integer.MAX_VALUE, 256, -256};

    public static void main(String[] args) {
        element();
        holds();
        says();
        fewest();
        judge();
        swaps();
        tells();
        turned();
        status();
        best();
        noneIsPossible();
        saidOfNone();
        oneIsPossible();
        DUE.end();
    }

    private static void full(String word, Due.Call call, long want) {
        DUE.asked(word, Scenes::full, call, want);
    }

    private static void none(String word, Due.Call call, long want) {
        DUE.asked(word, Scenes::noneIsPossible, call, want);
    }

    private static void element() {
        DUE.promise(5);
        full("element: the last", x -> x.element(Scenes.LONG, 39), 1);
        full("element: none behind 40", x -> x.element(Scenes.LONG, 40), 0);
        full("element: none ahead of the first", x -> x.element(Scenes.LONG, -1), 0);
        full("element: none behind 3", x -> x.element(Scenes.SHORT, 3), 0);
        full("element: no ROW, a TELLER", x -> x.element(Scenes.TURNER, 0), 0);
        full("element: no ROW, NOTHING", x -> x.element(Scenes.EMPTY, 0), 0);
        full("element: no SHELF behind the last", x -> x.element(8, 0), 0);
        full("element: no SHELF ahead of the first", x -> x.element(-1, 39), 0);
        for (int far : FAR) {
            full("element: none at " + far, x -> x.element(Scenes.LONG, far), 0);
            full("element: no SHELF " + far, x -> x.element(far, 0), 0);
        }
        DUE.asked("element: none of a ROW of none", () -> {
            TheOneWithout x = Scenes.full();
            x.row(Scenes.LONG, 4, 0);
            return x;
        }, x -> x.element(Scenes.LONG, 0), 0);
    }

    private static void holds() {
        DUE.promise(6);
        int[] due = {0, 1, 2, 3, 4, NONE, 11, 12};
        for (int s = 0; s < 8; s++) {
            int shelf = s;
            full("holds: SHELF " + s, x -> x.holds(shelf), due[s]);
        }
        full("holds: no SHELF behind the last", x -> x.holds(8), NONE);
        full("holds: no SHELF ahead of the first", x -> x.holds(-1), NONE);
        for (int far : FAR) {
            full("holds: no SHELF " + far, x -> x.holds(far), NONE);
        }
    }

    private static TheOneWithout shown(int kind, String text) {
        TheOneWithout x = Due.tray(text);
        x.show(3, x.teller(kind, 6));
        return x;
    }

    private static void says() {
        DUE.promise(8);
        String known = "cups 2;law 2;pour 0 1;sign 0 3 1";
        for (int kind = 0; kind < 6; kind++) {
            int k = kind;
            DUE.asked("says: a TELLER of KIND " + kind + " has its a, all is KNOWN",
                    () -> shown(k, known), x -> x.says(3, 0), 6);
            if (kind > 0) {
                DUE.asked("says: NONE by KIND " + kind + ", all is KNOWN",
                        () -> shown(k, known), x -> x.says(3, k), NONE);
            }
        }
        DUE.asked("says: NONE by a TURNER, SHADES are alike",
                () -> shown(1, "cups 2;law 2;pour 0 1"), x -> x.says(3, 1), NONE);
    }

    private static void fewest() {
        DUE.promise(27);
        full("fewest: NONE, HEATS are alike", x -> x.fewest(4), NONE);
        DUE.asked("fewest: NONE, more than 4",
                () -> Due.tray("cups 6;law 1;pour 0 0 0 0 0 1"), x -> x.fewest(15), NONE);
        DUE.asked("fewest: 4", () -> Due.tray("cups 5;law 1;pour 0 0 0 0 1"),
                x -> x.fewest(15), 4);
        DUE.asked("fewest: 0, it is known", TheOneWithout::new, x -> x.fewest(15), 0);
    }

    private static void judge() {
        DUE.promise(30);
        full("judge: NONE is WRONG", x -> x.judge(Scenes.HANDING), NONE);
        full("judge: the second is one ahead", x -> x.judge(Scenes.WRONG), 1);
    }

    private static void swaps() {
        DUE.promise(31);
        Due.Scene both = () -> {
            TheOneWithout x = Scenes.full();
            x.guest(0, 0, 0);
            x.guest(1, 0, 0);
            return x;
        };
        DUE.asked("handing: SWAPS NONE, two want the one", both, x -> x.handing(0, 1), NONE);
        DUE.asked("handing: SWAPS NONE, there is no 5", () -> {
            TheOneWithout x = Scenes.full();
            x.guest(3, 5, 0);
            return x;
        }, x -> x.handing(0, 1), NONE);
    }

    private static void tells() {
        DUE.promise(34);
        full("tells: 3 by a MIXER, place 0 isn't KNOWN", x -> x.tells(0), 3);
        DUE.asked("tells: NONE by a TURNER, the greatest SPLIT is 1", () -> {
            TheOneWithout x = Scenes.full();
            x.forget();
            for (int sort = 0; sort < 6; sort++) {
                x.sort(sort, 0, 9);
            }
            return x;
        }, x -> x.tells(1), NONE);
    }

    private static void turned() {
        DUE.promise(36);
        Due.Scene mixed = () -> {
            TheOneWithout x = Scenes.full();
            Due.row(x, 5, 0, 1, 0, 1, 2);
            x.truth(5);
            return x;
        };
        DUE.asked("turned: NONE", mixed, x -> x.turned(), NONE);
    }

    private static void status() {
        DUE.promise(45);
        int[] others = {-1, 8, 9, 10, 11, 17, 18, -12, 256, 256 + 12, Integer.MIN_VALUE,
            Integer.MAX_VALUE};
        for (int what : others) {
            full("status: NONE of " + what, x -> x.status(what), NONE);
        }
    }

    private static void best() {
        DUE.promise(32);
        full("best: GUEST NONE is the MEAN", x -> x.best(NONE), Scenes.full().best(NONE));
    }

    private static void noneIsPossible() {
        DUE.promise(20);
        none("worlds: all", x -> x.worlds(0), 12);
        none("worlds: POSSIBLE ones", x -> x.worlds(1), 0);
        DUE.promise(22);
        none("sorts: no bits", x -> x.sorts(3), 0);
        DUE.promise(24);
        none("known: all bits", x -> x.known(), 15);
        DUE.promise(25);
        for (int kind = 0; kind < 4; kind++) {
            int k = kind;
            none("split of KIND " + kind, x -> x.split(0, k, 0), 0);
            none("split, WORST of KIND " + kind, x -> x.split(0, k, 1), 0);
        }
        DUE.promise(29);
        none("marks: POSSIBLE or not", x -> x.marks(0), 12);
        DUE.promise(31);
        none("handing: MEAN", x -> x.handing(Scenes.HANDING, 0), 0);
        DUE.promise(32);
        none("best: MEAN", x -> x.best(NONE), 0);
        for (int guest = 0; guest < 4; guest++) {
            int g = guest;
            none("best: the first row of numbers", x -> x.best(g), guest);
        }
        DUE.promise(33);
        none("mind", x -> x.mind(0, 1), 0);
        DUE.promise(35);
        none("odd", x -> x.odd(1), 0);
    }

    private static void saidOfNone() {
        for (int kind = 0; kind < 6; kind++) {
            int k = kind;
            Due.Scene scene = () -> {
                TheOneWithout x = Scenes.noneIsPossible();
                x.show(5, x.teller(k, 7));
                return x;
            };
            DUE.promise(34);
            DUE.asked("tells: NONE by KIND " + kind + ", none is POSSIBLE", scene,
                    x -> x.tells(3), NONE);
            DUE.promise(38);
            DUE.asked("tries: no look by KIND " + kind + ", none is POSSIBLE", scene,
                    x -> x.tries(3), 0);
            DUE.promise(8);
            DUE.asked("says by KIND " + kind + ", none is POSSIBLE", scene,
                    x -> x.says(5, k), kind == 0 ? 7 : NONE);
        }
    }

    private static void oneIsPossible() {
        for (int kind = 0; kind < 6; kind++) {
            int k = kind;
            Due.Scene scene = () -> {
                TheOneWithout x = Due.tray("cups 3;law 2;pour 0 1 2;sort 1 1 2 3;guest 0 1 5;"
                        + "sign 1 3 0;sign 2 3 1");
                x.teller(k, 7);
                return x;
            };
            DUE.promise(34);
            DUE.asked("tells: NONE by KIND " + kind + ", one is POSSIBLE", scene,
                    x -> x.tells(0), NONE);
            DUE.promise(38);
            DUE.asked("tries: no look by KIND " + kind + ", one is POSSIBLE", scene,
                    x -> x.tries(0), 0);
        }
    }
}
