/**
 * For each number that a call is told: the last that may be and the first that may not, on both
 * sides. What may not be is BAD, which is counted once, and nothing else changes.
 */
public final class LimitsTest {
    private static final Due DUE = new Due();
    private static final int BAD = -2;

    private interface NumberCall {
        long on(TheOneWithout x, int v);
    }

    public static void main(String[] args) {
        shelves();
        rowsAndElements();
        copies();
        tray();
        guestsAndTellers();
        signs();
        questions();
        places();
        sortsInRows();
        DUE.end();
    }

    /** By four cups, three tellers. */
    private static void limits(int promise, String word, int first, int last, NumberCall call) {
        DUE.promise(promise);
        limitsOf(4, word, first, last, call);
    }

    /** By n cups, 2 to 6. */
    private static void ofEachTray(int promise, String word, int first, NumberCall call) {
        DUE.promise(promise);
        for (int n = 2; n <= 6; n++) {
            limitsOf(n, word, first, n - 1, call);
        }
    }

    private static void limitsOf(int n, String word, int first, int last, NumberCall call) {
        for (int v : new int[] {first, last}) {
            TheOneWithout x = Scenes.full(n);
            if (call.on(x, v) == BAD) {
                DUE.no(word + " " + v + " may be, of " + n + " cups");
            }
            DUE.is(word + " " + v + ", BAD ones", x.status(12), 1);
        }
        int[] beyond = {first - 1, last + 1, last + 256, first - 65536, Integer.MIN_VALUE,
            Integer.MAX_VALUE};
        for (int v : beyond) {
            DUE.refused(word + " " + v + " of " + n + " cups", () -> Scenes.full(n),
                    x -> call.on(x, v), BAD);
        }
    }

    private static void shelves() {
        limits(2, "row: SHELF", 0, 7, (x, v) -> x.row(v, 0, 1));
        limits(3, "set: SHELF", 0, 7, (x, v) -> x.set(v, 0, 1));
        limits(4, "copy: SHELF p", 0, 7, (x, v) -> x.copy(v, 0, 0, 0, 1));
        limits(4, "copy: SHELF q", 0, 7, (x, v) -> x.copy(0, v, 0, 0, 1));
        limits(7, "show: SHELF", 0, 7, (x, v) -> x.show(v, 0));
        limits(7, "show NONE: SHELF", 0, 7, (x, v) -> x.show(v, TheOneWithout.NONE));
        limits(8, "says: SHELF", 0, 7, (x, v) -> x.says(v, 0));
        limits(10, "pour: SHELF", 0, 7, (x, v) -> x.pour(v));
        limits(30, "judge: SHELF", 0, 7, (x, v) -> x.judge(v));
        limits(31, "handing, MEAN: SHELF", 0, 7, (x, v) -> x.handing(v, 0));
        limits(31, "handing, SWAPS: SHELF", 0, 7, (x, v) -> x.handing(v, 1));
        limits(31, "handing, COST: SHELF", 0, 7, (x, v) -> x.handing(v, 2));
        limits(40, "truth: SHELF", 0, 7, (x, v) -> x.truth(v));
    }

    private static void rowsAndElements() {
        limits(2, "row: SORT OF ELEMENTS", 0, 4, (x, v) -> x.row(5, v, 1));
        limits(2, "row: elements", 0, 40, (x, v) -> x.row(5, 0, v));
        limits(2, "row over a TELLER: elements", 0, 40, (x, v) -> x.row(Scenes.HANDER, 0, v));
        limits(3, "set: i of 4", 0, 3, (x, v) -> x.set(Scenes.HANDING, v, 1));
        limits(3, "set: i of 3", 0, 2, (x, v) -> x.set(Scenes.SHORT, v, 1));
        limits(3, "set: i of 40", 0, 39, (x, v) -> x.set(Scenes.LONG, v, 1));
    }

    private static void copies() {
        limits(4, "copy: i, one of 4", 0, 3, (x, v) -> x.copy(0, 0, v, 0, 1));
        limits(4, "copy: j, one of 4", 0, 3, (x, v) -> x.copy(0, 0, 0, v, 1));
        limits(4, "copy: i, four of 40", 0, 36, (x, v) -> x.copy(4, 4, v, 0, 4));
        limits(4, "copy: j, four of 40", 0, 36, (x, v) -> x.copy(4, 4, 0, v, 4));
        limits(4, "copy: i, 40 of 40", 0, 0, (x, v) -> x.copy(4, 4, v, 0, 40));
        limits(4, "copy: j, 40 of 40", 0, 0, (x, v) -> x.copy(4, 4, 0, v, 40));
        limits(4, "copy: i, none of 4", 0, 4, (x, v) -> x.copy(0, 0, v, 0, 0));
        limits(4, "copy: j, none of 4", 0, 4, (x, v) -> x.copy(0, 0, 0, v, 0));
        limits(4, "copy: n of 4", 0, 4, (x, v) -> x.copy(0, 0, 0, 0, v));
        limits(4, "copy: n of 40", 0, 40, (x, v) -> x.copy(4, 4, 0, 0, v));
        limits(4, "copy: n from place 1 on", 0, 3, (x, v) -> x.copy(0, 0, 1, 0, v));
        limits(4, "copy: n to places 1 on", 0, 3, (x, v) -> x.copy(0, 0, 0, 1, v));
        limits(4, "copy: n from the last", 0, 1, (x, v) -> x.copy(4, 4, 39, 0, v));
    }

    private static void tray() {
        limits(9, "cups", 2, 6, (x, v) -> x.cups(v));
        limits(11, "law", 0, 2, (x, v) -> x.law(v));
        limits(12, "sort: SORT", 0, 5, (x, v) -> x.sort(v, 1, 4));
        limits(12, "sort: what", 0, 2, (x, v) -> x.sort(1, v, 4));
        for (int what = 0; what < 3; what++) {
            int w = what;
            limits(12, "sort: number of " + what, 0, 9, (x, v) -> x.sort(1, w, v));
        }
        limits(17, "feed", 0, 255, (x, v) -> x.feed(v));
    }

    private static void guestsAndTellers() {
        limits(13, "guest: SORT", -1, 5, (x, v) -> x.guest(1, v, 4));
        limits(13, "guest: MINDS", 0, 9, (x, v) -> x.guest(1, 2, v));
        limits(7, "show: TELLER", -1, 2, (x, v) -> x.show(5, v));
        limits(8, "says: KIND", 0, 5, (x, v) -> x.says(Scenes.TURNER, v));
        limits(14, "teller: KIND", 0, 5, (x, v) -> x.teller(v, 1));
        limits(14, "teller: a", 0, 9, (x, v) -> x.teller(1, v));
        limits(34, "tells: TELLER", 0, 2, (x, v) -> x.tells(v));
        limits(38, "tries: TELLER", 0, 2, (x, v) -> x.tries(v));
    }

    private static void signs() {
        limits(15, "sign: KIND", 0, 3, (x, v) -> x.sign(1, v, 5));
        limits(15, "sign: SHADE", 0, 9, (x, v) -> x.sign(1, 0, v));
        limits(15, "sign: WEIGHT", 0, 9, (x, v) -> x.sign(1, 1, v));
        limits(15, "sign: HEAT", 0, 9, (x, v) -> x.sign(1, 2, v));
        limits(15, "sign: SORT", 0, 5, (x, v) -> x.sign(1, 3, v));
        limits(37, "look: KIND", 0, 3, (x, v) -> x.look(1, v));
    }

    private static void questions() {
        limits(20, "worlds: what", 0, 1, (x, v) -> x.worlds(v));
        limits(23, "likely: what", 0, 1, (x, v) -> x.likely(1, v));
        limits(25, "split: KIND", 0, 3, (x, v) -> x.split(1, v, 1));
        limits(25, "split: what", 0, 1, (x, v) -> x.split(1, 1, v));
        limits(26, "next: KINDS", 1, 15, (x, v) -> x.next(v));
        limits(27, "fewest: KINDS", 1, 15, (x, v) -> x.fewest(v));
        limits(29, "marks: KINDS", 0, 15, (x, v) -> x.marks(v));
        limits(31, "handing: what", 0, 2, (x, v) -> x.handing(Scenes.HANDING, v));
        DUE.promise(21);
        for (int i : new int[] {-1, -256, Integer.MIN_VALUE}) {
            DUE.refused("world: i " + i, Scenes::full, x -> x.world(i, 0), BAD);
        }
    }

    private static void places() {
        ofEachTray(13, "guest: GUEST", 0, (x, v) -> x.guest(v, 1, 2));
        ofEachTray(15, "sign: place", 0, (x, v) -> x.sign(v, 3, 1));
        ofEachTray(21, "world: place", 0, (x, v) -> x.world(0, v));
        ofEachTray(22, "sorts: place", 0, (x, v) -> x.sorts(v));
        ofEachTray(23, "likely: place", 0, (x, v) -> x.likely(v, 0));
        ofEachTray(23, "likely, SURE: place", 0, (x, v) -> x.likely(v, 1));
        ofEachTray(25, "split: place", 0, (x, v) -> x.split(v, 0, 0));
        ofEachTray(25, "split, WORST: place", 0, (x, v) -> x.split(v, 0, 1));
        ofEachTray(32, "best: NONE or GUEST", -1, (x, v) -> x.best(v));
        ofEachTray(33, "mind: GUEST", 0, (x, v) -> x.mind(v, 0));
        ofEachTray(33, "mind: place", 0, (x, v) -> x.mind(0, v));
        ofEachTray(35, "odd: place", 0, (x, v) -> x.odd(v));
        ofEachTray(37, "look: place", 0, (x, v) -> x.look(v, 0));
        ofEachTray(37, "look, SORT: place", 0, (x, v) -> x.look(v, 3));
        ofEachTray(41, "stands: place", 0, (x, v) -> x.stands(v));
    }

    /** A row of sorts 1 with one element v among them, at each place in turn. */
    private static TheOneWithout withRow(int n, int place, long v) {
        TheOneWithout x = Scenes.full(n);
        x.row(Scenes.WRONG, 3, n);
        for (int i = 0; i < n; i++) {
            x.set(Scenes.WRONG, i, i == place ? v : 1);
        }
        return x;
    }

    private static void sortsInRows() {
        for (int n = 2; n <= 6; n++) {
            for (int place = 0; place < n; place++) {
                sortsAt(n, place);
            }
        }
    }

    private static void sortsAt(int n, int place) {
        for (long sort : new long[] {0, 5}) {
            DUE.promise(10);
            TheOneWithout x = withRow(n, place, sort);
            DUE.is("pour of SORT " + sort + " at " + place, x.pour(Scenes.WRONG), n);
            DUE.is("stands(" + place + ")", x.stands(place), sort);
            DUE.promise(40);
            DUE.is("truth of SORT " + sort + " at " + place, x.truth(Scenes.WRONG), 1);
        }
        long[] beyond = {-1, 6, 256, 1L << 32, (1L << 32) + 1, Long.MIN_VALUE, Long.MAX_VALUE};
        for (long sort : beyond) {
            String word = " of SORT " + sort + " at " + place + " of " + n;
            DUE.promise(10);
            DUE.refused("pour" + word, () -> withRow(n, place, sort),
                    x -> x.pour(Scenes.WRONG), BAD);
            DUE.promise(40);
            DUE.refused("truth" + word, () -> withRow(n, place, sort),
                    x -> x.truth(Scenes.WRONG), BAD);
        }
    }
}
