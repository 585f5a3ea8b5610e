/** Promises 2 to 8: rows and tellers on shelves. */
public final class ShelvesTest {
    private static final Due DUE = new Due();

    public static void main(String[] args) {
        rows();
        sets();
        sortsOfElements();
        copies();
        copiesRefused();
        elements();
        holds();
        shows();
        says();
        saysRefused();
        DUE.end();
    }

    private static void rows() {
        DUE.promise(2);
        TheOneWithout x = new TheOneWithout();
        for (int sort = 0; sort < 5; sort++) {
            DUE.is("row(7, sort, 40)", x.row(7, sort, 40), 1);
            DUE.is("holds(7)", x.holds(7), sort);
        }
        DUE.is("set(7, 39, 1)", x.set(7, 39, 1), 1);
        DUE.is("row(7, 4, 40)", x.row(7, 4, 40), 1);
        DUE.is("a new row's element", x.element(7, 39), 0);
        DUE.is("row(0, 0, 0)", x.row(0, 0, 0), 1);
        DUE.is("holds(0)", x.holds(0), 0);
        DUE.refused(x, "row(8, 0, 0)", x.row(8, 0, 0), -2, 1);
        DUE.refused(x, "row(-1, 0, 0)", x.row(-1, 0, 0), -2, 2);
        DUE.refused(x, "row(1, 5, 0)", x.row(1, 5, 0), -2, 3);
        DUE.refused(x, "row(1, -1, 0)", x.row(1, -1, 0), -2, 4);
        DUE.refused(x, "row(1, 0, 41)", x.row(1, 0, 41), -2, 5);
        DUE.refused(x, "row(1, 0, -1)", x.row(1, 0, -1), -2, 6);
        DUE.is("holds(1)", x.holds(1), -1);
        x.teller(0, 0);
        x.show(2, 0);
        DUE.is("row over a teller", x.row(2, 3, 1), 1);
        DUE.is("holds(2)", x.holds(2), 3);
    }

    private static void sets() {
        DUE.promise(3);
        TheOneWithout x = new TheOneWithout();
        x.row(0, 2, 3);
        DUE.is("set(0, 2, 7)", x.set(0, 2, 7), 1);
        DUE.is("element(0, 2)", x.element(0, 2), 7);
        DUE.is("element(0, 1)", x.element(0, 1), 0);
        DUE.refused(x, "set(8, 0, 1)", x.set(8, 0, 1), -2, 1);
        DUE.refused(x, "set(-1, 0, 1)", x.set(-1, 0, 1), -2, 2);
        x.teller(1, 0);
        x.show(1, 0);
        DUE.refused(x, "set of a teller", x.set(1, -9, 1), -3, 1);
        DUE.refused(x, "set of nothing", x.set(2, -9, 1), -4, 1);
        DUE.refused(x, "set(0, 3, 1)", x.set(0, 3, 1), -2, 3);
        DUE.refused(x, "set(0, -1, 1)", x.set(0, -1, 1), -2, 4);
    }

    private static void sortsOfElements() {
        DUE.promise(3);
        long[][] cases = {
            {0, 127, 127}, {0, 128, -128}, {0, 256, 0}, {0, -129, 127},
            {1, 32767, 32767}, {1, 32768, -32768}, {1, 65536, 0},
            {2, 2147483647L, 2147483647L}, {2, 2147483648L, -2147483648L}, {2, 1L << 32, 0},
            {3, Long.MIN_VALUE, Long.MIN_VALUE}, {3, Long.MAX_VALUE, Long.MAX_VALUE},
            {4, 0, 0}, {4, 1, 1}, {4, 2, 1}, {4, -1, 1}, {4, 1L << 40, 1},
        };
        TheOneWithout x = new TheOneWithout();
        for (long[] c : cases) {
            x.row(0, (int) c[0], 1);
            x.set(0, 0, c[1]);
            DUE.is("sort " + c[0] + " of " + c[1], x.element(0, 0), c[2]);
        }
    }

    private static void copies() {
        DUE.promise(4);
        TheOneWithout x = new TheOneWithout();
        Due.row(x, 0, 1, 1, 2, 3, 4, 5);
        Due.row(x, 1, 1, 0, 0, 0);
        DUE.is("copy(0, 1, 3, 1, 2)", x.copy(0, 1, 3, 1, 2), 2);
        DUE.is("element(1, 0)", x.element(1, 0), 0);
        DUE.is("element(1, 1)", x.element(1, 1), 4);
        DUE.is("element(1, 2)", x.element(1, 2), 5);
        DUE.is("forward over itself", x.copy(0, 0, 0, 1, 4), 4);
        long[] due = {1, 1, 2, 3, 4};
        for (int i = 0; i < 5; i++) {
            DUE.is("element(0, " + i + ")", x.element(0, i), due[i]);
        }
        DUE.is("backward over itself", x.copy(0, 0, 2, 0, 3), 3);
        long[] dueThen = {2, 3, 4, 3, 4};
        for (int i = 0; i < 5; i++) {
            DUE.is("element(0, " + i + ")", x.element(0, i), dueThen[i]);
        }
        DUE.is("none at the ends", x.copy(0, 1, 5, 3, 0), 0);
    }

    private static void copiesRefused() {
        DUE.promise(4);
        TheOneWithout x = new TheOneWithout();
        Due.row(x, 0, 1, 1, 2, 3, 4, 5);
        Due.row(x, 1, 1, 0, 0, 0);
        Due.row(x, 2, 2, 9, 9, 9);
        x.teller(0, 0);
        x.show(3, 0);
        DUE.refused(x, "copy(8, 3, ..)", x.copy(8, 3, 0, 0, 1), -2, 1);
        DUE.refused(x, "copy(3, -1, ..)", x.copy(3, -1, 0, 0, 1), -2, 2);
        DUE.refused(x, "teller to nothing", x.copy(3, 7, 0, 0, 1), -3, 1);
        DUE.refused(x, "nothing to teller", x.copy(7, 3, 0, 0, 1), -3, 2);
        DUE.refused(x, "two sorts", x.copy(0, 2, 0, 0, 99), -3, 3);
        DUE.refused(x, "nothing to a row", x.copy(7, 0, 0, 0, 99), -4, 1);
        DUE.refused(x, "a row to nothing", x.copy(0, 7, 0, 0, 1), -4, 2);
        DUE.refused(x, "n below 0", x.copy(0, 1, 0, 0, -1), -2, 3);
        DUE.refused(x, "i below 0", x.copy(0, 1, -1, 0, 1), -2, 4);
        DUE.refused(x, "j below 0", x.copy(0, 1, 0, -1, 1), -2, 5);
        DUE.refused(x, "behind p", x.copy(0, 1, 4, 0, 2), -2, 6);
        DUE.refused(x, "behind q", x.copy(0, 1, 0, 2, 2), -2, 7);
        DUE.refused(x, "far behind", x.copy(0, 1, Integer.MAX_VALUE, 0, 3), -2, 8);
        DUE.refused(x, "many", x.copy(0, 1, 3, 0, Integer.MAX_VALUE), -2, 9);
        DUE.refused(x, "none behind the end", x.copy(0, 1, 6, 0, 0), -2, 10);
        DUE.is("element(1, 0)", x.element(1, 0), 0);
    }

    private static void elements() {
        DUE.promise(5);
        TheOneWithout x = new TheOneWithout();
        Due.row(x, 0, 3, 8, 9);
        x.teller(0, 5);
        x.show(1, 0);
        DUE.is("element(0, 1)", x.element(0, 1), 9);
        DUE.is("element(0, 2)", x.element(0, 2), 0);
        DUE.is("element(0, -1)", x.element(0, -1), 0);
        DUE.is("element(1, 0)", x.element(1, 0), 0);
        DUE.is("element(2, 0)", x.element(2, 0), 0);
        DUE.is("element(8, 0)", x.element(8, 0), 0);
        DUE.is("element(-1, 0)", x.element(-1, 0), 0);
        for (int what = 12; what <= 16; what++) {
            DUE.is("nothing is refused", x.status(what), 0);
        }
        x.row(0, 3, 1);
        DUE.is("behind a shorter row", x.element(0, 1), 0);
    }

    private static void holds() {
        DUE.promise(6);
        TheOneWithout x = new TheOneWithout();
        x.teller(0, 5);
        x.teller(4, 5);
        DUE.is("holds(0)", x.holds(0), -1);
        x.show(0, 1);
        DUE.is("holds(0)", x.holds(0), 11);
        x.row(0, 4, 0);
        DUE.is("holds(0)", x.holds(0), 4);
        x.show(7, 0);
        DUE.is("holds(7)", x.holds(7), 10);
        DUE.is("holds(8)", x.holds(8), -1);
        DUE.is("holds(-1)", x.holds(-1), -1);
        DUE.is("nothing is refused", x.status(12), 0);
    }

    private static void shows() {
        DUE.promise(7);
        TheOneWithout x = new TheOneWithout();
        DUE.refused(x, "show(0, 0)", x.show(0, 0), -2, 1);
        x.teller(3, 5);
        DUE.is("show(0, 0)", x.show(0, 0), 1);
        DUE.is("holds(0)", x.holds(0), 10);
        DUE.refused(x, "show(0, 1)", x.show(0, 1), -2, 2);
        DUE.refused(x, "show(0, -2)", x.show(0, -2), -2, 3);
        DUE.refused(x, "show(8, 0)", x.show(8, 0), -2, 4);
        DUE.refused(x, "show(-1, -1)", x.show(-1, -1), -2, 5);
        DUE.is("holds(0)", x.holds(0), 10);
        DUE.is("show(0, NONE)", x.show(0, TheOneWithout.NONE), 1);
        DUE.is("holds(0)", x.holds(0), -1);
    }

    /** Each kind of teller taken for each: only for its own and what stands above it. */
    private static void says() {
        DUE.promise(8);
        String[] above = {"0", "01", "02", "023", "0234", "025"};
        for (int own = 0; own < 6; own++) {
            TheOneWithout x = Due.tray("cups 3; pour 0 1 2; law 2; sort 1 1 0 0; sign 0 0 0");
            DUE.is("teller", x.teller(own, 7), 0);
            x.show(6, 0);
            int said = x.tells(0);
            for (int kind = 0; kind < 6; kind++) {
                boolean fits = above[own].indexOf('0' + kind) >= 0;
                int due = !fits ? -3 : kind == 0 ? 7 : said;
                DUE.is("a " + own + " taken for " + kind, x.says(6, kind), due);
            }
        }
        TheOneWithout x = Due.tray("cups 3; pour 0 1 2; law 2");
        x.teller(2, 9);
        x.show(0, 0);
        DUE.is("a mixer says a sip", x.says(0, 2), 3);
        Due.stair(x, "sign 0 3 1; sign 1 3 0");
        DUE.is("a mixer says none", x.says(0, 2), -1);
        DUE.is("NONE isn't refused", x.status(12), 0);
    }

    private static void saysRefused() {
        DUE.promise(8);
        TheOneWithout x = new TheOneWithout();
        x.teller(1, 3);
        x.show(0, 0);
        x.row(1, 0, 0);
        DUE.refused(x, "says(8, 0)", x.says(8, 0), -2, 1);
        DUE.refused(x, "says(-1, 0)", x.says(-1, 0), -2, 2);
        DUE.refused(x, "says(1, 6)", x.says(1, 6), -2, 3);
        DUE.refused(x, "says(2, -1)", x.says(2, -1), -2, 4);
        DUE.refused(x, "a row", x.says(1, 0), -3, 1);
        DUE.refused(x, "a turner is no mixer", x.says(0, 2), -3, 2);
        DUE.refused(x, "nothing", x.says(2, 0), -4, 1);
        DUE.is("says(0, 0)", x.says(0, 0), 3);
    }
}
