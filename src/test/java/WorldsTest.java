/** Promises 20 to 25 and 35: worlds, and what can be at a place. */
public final class WorldsTest {
    private static final Due DUE = new Due();
    /** Two of sort 0, one each of 1 and 2, in any order, and no 0 at place 0. */
    private static final String MIXED = "cups 4;law 2;pour 0 1 0 2;sort 1 5 1 0;sort 2 5 2 0";

    public static void main(String[] args) {
        worlds();
        orderOfMixed();
        orderOfTurned();
        worldRefused();
        sorts();
        likely();
        likelyRefused();
        known();
        split();
        odd();
        noneIsPossible();
        oneIsPossible();
        signsAtLastPlaces();
        everySort();
        DUE.end();
    }

    private static void worlds() {
        DUE.promise(20);
        TheOneWithout x = Due.tray(MIXED);
        DUE.is("worlds(0)", x.worlds(0), 12);
        DUE.is("worlds(1)", x.worlds(1), 12);
        Due.stair(x, "sign 0 0 5");
        DUE.is("worlds(0)", x.worlds(0), 12);
        DUE.is("worlds(1)", x.worlds(1), 6);
        DUE.refused(x, "worlds(2)", x.worlds(2), -2, 1);
        DUE.refused(x, "worlds(-1)", x.worlds(-1), -2, 2);
        int[] due = {2, 6, 24, 120, 720};
        for (int n = 2; n <= 6; n++) {
            x.cups(n);
            Due.row(x, 0, 0, 0, 1, 2, 3, 4, 5);
            x.law(2);
            DUE.is("mixed, all unlike, " + n, x.pour(0), due[n - 2]);
            x.law(1);
            DUE.is("turned, all unlike, " + n, x.worlds(0), n);
            x.law(0);
            DUE.is("fixed, all unlike, " + n, x.worlds(0), 1);
        }
        DUE.is("turned, alike by thirds", worldsOf("cups 6;pour 1 2 1 2 1 2;law 1"), 2);
        DUE.is("turned, alike by halves", worldsOf("cups 6;pour 1 2 3 1 2 3;law 1"), 3);
        DUE.is("mixed, alike", worldsOf("cups 6;pour 3 3 3 3 3 3;law 2"), 1);
        DUE.is("mixed, three and three", worldsOf("cups 6;pour 1 2 1 2 1 2;law 2"), 20);
    }

    private static int worldsOf(String text) {
        return Due.tray(text).worlds(0);
    }

    private static void rowsAre(TheOneWithout x, int[] rows) {
        DUE.is("worlds(1)", x.worlds(1), rows.length);
        for (int i = 0; i < rows.length; i++) {
            int row = 0;
            for (int place = 0; place < x.status(0); place++) {
                row = 10 * row + x.world(i, place);
            }
            DUE.is("row " + i, row, rows[i]);
        }
    }

    private static void orderOfMixed() {
        DUE.promise(21);
        rowsAre(Due.tray(MIXED), new int[] {12, 21, 102, 120, 201, 210, 1002, 1020, 1200,
            2001, 2010, 2100});
        rowsAre(Due.tray(MIXED + ";sign 0 0 5;sign 2 3 0"), new int[] {1002, 1200, 2001, 2100});
        rowsAre(Due.tray("cups 3;law 0;pour 2 1 0"), new int[] {210});
    }

    private static void orderOfTurned() {
        DUE.promise(21);
        rowsAre(Due.tray("cups 4;law 1;pour 2 0 1 0"), new int[] {102, 201, 1020, 2010});
        rowsAre(Due.tray("cups 4;law 1;pour 3 1 3 1"), new int[] {1313, 3131});
        rowsAre(Due.tray("cups 3;law 1;pour 0 1 2"), new int[] {12, 120, 201});
        rowsAre(Due.tray("cups 3;law 1;pour 0 1 2;sign 1 3 0"), new int[] {201});
    }

    private static void worldRefused() {
        DUE.promise(21);
        TheOneWithout x = Due.tray(MIXED);
        DUE.is("world(11, 3)", x.world(11, 3), 0);
        DUE.refused(x, "not so many", x.world(12, 0), -5, 1);
        DUE.refused(x, "world(-1, 0)", x.world(-1, 0), -2, 1);
        DUE.refused(x, "world(0, 4)", x.world(0, 4), -2, 2);
        DUE.refused(x, "BAD is ahead of STUCK", x.world(99, -1), -2, 3);
        Due.stair(x, "sign 0 3 1");
        DUE.refused(x, "possible ones alone", x.world(3, 0), -5, 2);
    }

    private static void sorts() {
        DUE.promise(22);
        TheOneWithout x = Due.tray(MIXED + ";sign 0 0 5");
        DUE.is("sorts(0)", x.sorts(0), 6);
        DUE.is("sorts(1)", x.sorts(1), 7);
        Due.stair(x, "sign 0 3 2");
        DUE.is("sorts(0)", x.sorts(0), 4);
        DUE.is("sorts(3)", x.sorts(3), 3);
        DUE.refused(x, "sorts(4)", x.sorts(4), -2, 1);
        DUE.refused(x, "sorts(-1)", x.sorts(-1), -2, 2);
    }

    private static void likely() {
        DUE.promise(23);
        TheOneWithout x = Due.tray(MIXED);
        DUE.is("likely(0, 0)", x.likely(0, 0), 0);
        DUE.is("likely(0, 1)", x.likely(0, 1), 500);
        x = Due.tray("cups 6;law 2;pour 5 4 3 4 5 2");
        DUE.is("of several the least", x.likely(3, 0), 4);
        DUE.is("a third, cut", x.likely(3, 1), 333);
        Due.stair(x, "sign 3 3 3");
        DUE.is("likely(3, 1)", x.likely(3, 1), 1000);
        DUE.is("likely(3, 0)", x.likely(3, 0), 3);
        x = Due.tray("cups 3;law 2;pour 2 1 2");
        DUE.is("likely(1, 0)", x.likely(1, 0), 2);
        DUE.is("two thirds, cut", x.likely(1, 1), 666);
    }

    private static void likelyRefused() {
        DUE.promise(23);
        TheOneWithout x = Due.tray("cups 3;law 2;pour 0 1 2;sign 0 3 1");
        DUE.refused(x, "likely(3, 0)", x.likely(3, 0), -2, 1);
        DUE.refused(x, "likely(-1, 0)", x.likely(-1, 0), -2, 2);
        DUE.refused(x, "likely(0, 2)", x.likely(0, 2), -2, 3);
        DUE.refused(x, "likely(0, -1)", x.likely(0, -1), -2, 4);
        x.law(0);
        DUE.refused(x, "none is possible", x.likely(0, 0), -5, 1);
        DUE.refused(x, "none is possible", x.likely(0, 1), -5, 2);
        DUE.refused(x, "BAD is ahead of STUCK", x.likely(3, 1), -2, 5);
    }

    private static void known() {
        DUE.promise(24);
        TheOneWithout x = Due.tray(MIXED);
        DUE.is("known()", x.known(), 0);
        Due.stair(x, "sign 1 3 1");
        DUE.is("known()", x.known(), 2);
        Due.stair(x, "sign 3 3 0");
        DUE.is("known()", x.known(), 10);
        Due.stair(x, "sign 0 3 0");
        DUE.is("the last by itself", x.known(), 15);
        DUE.is("a shade of two sorts is not known", Due.tray(MIXED + ";sign 0 0 5").known(), 0);
        DUE.is("all alike", new TheOneWithout().known(), 31);
    }

    private static void split() {
        DUE.promise(25);
        TheOneWithout x = Due.tray(MIXED);
        int[][] due = {{2, 6}, {3, 6}, {1, 12}, {3, 6}};
        for (int kind = 0; kind < 4; kind++) {
            DUE.is("split(3, " + kind + ", 0)", x.split(3, kind, 0), due[kind][0]);
            DUE.is("split(3, " + kind + ", 1)", x.split(3, kind, 1), due[kind][1]);
        }
        Due.stair(x, "sort 1 9 1 0");
        DUE.is("number 9, too", x.split(3, 0, 0), 3);
        Due.stair(x, "sort 0 9 0 0");
        DUE.is("number 9, too", x.split(3, 0, 1), 9);
        Due.stair(x, "sort 1 5 1 0;sort 0 0 0 0");
        Due.stair(x, "sign 0 1 2");
        DUE.is("split(0, 1, 0)", x.split(0, 1, 0), 1);
        DUE.is("split(0, 1, 1)", x.split(0, 1, 1), 3);
        DUE.is("split(1, 0, 0)", x.split(1, 0, 0), 2);
        DUE.is("split(1, 0, 1)", x.split(1, 0, 1), 2);
        DUE.refused(x, "split(4, 0, 0)", x.split(4, 0, 0), -2, 1);
        DUE.refused(x, "split(-1, 0, 0)", x.split(-1, 0, 0), -2, 2);
        DUE.refused(x, "split(0, 4, 0)", x.split(0, 4, 0), -2, 3);
        DUE.refused(x, "split(0, -1, 0)", x.split(0, -1, 0), -2, 4);
        DUE.refused(x, "split(0, 0, 2)", x.split(0, 0, 2), -2, 5);
        DUE.refused(x, "split(0, 0, -1)", x.split(0, 0, -1), -2, 6);
    }

    private static void odd() {
        DUE.promise(35);
        TheOneWithout x = Due.tray(MIXED);
        DUE.is("odd(0)", x.odd(0), 6);
        Due.stair(x, "sign 0 3 1");
        DUE.is("odd(0)", x.odd(0), 3);
        DUE.is("odd(1)", x.odd(1), 1);
        Due.stair(x, "sign 1 3 0");
        DUE.is("odd(1)", x.odd(1), 0);
        DUE.is("odd(2)", x.odd(2), 1);
        DUE.refused(x, "odd(4)", x.odd(4), -2, 1);
        DUE.refused(x, "odd(-1)", x.odd(-1), -2, 2);
        DUE.is("none is odd", new TheOneWithout().odd(0), 0);
        DUE.is("each is odd", Due.tray("cups 3;law 1;pour 3 4 5").odd(2), 3);
    }

    /** The least that is not STUCK. */
    private static void oneIsPossible() {
        TheOneWithout x = Due.tray("cups 3;law 2;pour 5 4 0;sign 0 3 4;sign 1 3 0");
        DUE.promise(20);
        DUE.is("worlds(1)", x.worlds(1), 1);
        DUE.promise(21);
        DUE.is("world(0, 2)", x.world(0, 2), 5);
        DUE.refused(x, "world(1, 2)", x.world(1, 2), -5, 1);
        int[] due = {4, 0, 5};
        for (int place = 0; place < 3; place++) {
            DUE.promise(22);
            DUE.is("sorts(" + place + ")", x.sorts(place), 1 << due[place]);
            DUE.promise(23);
            DUE.is("LIKELY at " + place, x.likely(place, 0), due[place]);
            DUE.is("SURE at " + place, x.likely(place, 1), 1000);
            DUE.promise(25);
            for (int kind = 0; kind < 4; kind++) {
                DUE.is("split(" + place + ", " + kind + ", 0)", x.split(place, kind, 0), 1);
                DUE.is("split(" + place + ", " + kind + ", 1)", x.split(place, kind, 1), 1);
            }
            DUE.promise(35);
            DUE.is("odd(" + place + ")", x.odd(place), 1);
        }
        DUE.promise(24);
        DUE.is("known()", x.known(), 7);
        DUE.promise(26);
        DUE.is("next(15): the first of all alike", x.next(15), 0);
        DUE.is("next(8): the first of all alike", x.next(8), 3);
        DUE.promise(27);
        DUE.is("fewest(8): it is known now", x.fewest(8), 0);
        DUE.promise(28);
        DUE.is("apart(): no place", x.apart(), 0);
        DUE.is("but the one is STUCK", x.status(15), 1);
    }

    /** A sign at each place of each tray, the last ones too, leaves the worlds that have it. */
    private static void signsAtLastPlaces() {
        int[] left = {1, 1, 2, 6, 24, 120};
        for (int n = 2; n <= 6; n++) {
            for (int place = 0; place < n; place++) {
                DUE.promise(15);
                TheOneWithout x = unlike(n);
                DUE.is("SORT at " + place + " of " + n, x.sign(place, 3, n - 1), left[n - 1]);
                DUE.promise(22);
                DUE.is("sorts(" + place + ")", x.sorts(place), 1 << n - 1);
                DUE.promise(24);
                DUE.is("known()", x.known(), n == 2 ? 3 : 1 << place);
                DUE.promise(15);
                x = unlike(n);
                DUE.is("SHADE 9 at " + place + " of " + n, x.sign(place, 0, 9),
                        (n - 1) * left[n - 1]);
                DUE.promise(37);
                x = unlike(n);
                DUE.is("look at " + place, x.look(place, 3), place);
                DUE.is("POSSIBLE ones", x.worlds(1), left[n - 1]);
            }
        }
    }

    /** Sorts 0 to n less 1 in any order; the last has shade 8, the others 9. */
    private static TheOneWithout unlike(int n) {
        TheOneWithout x = new TheOneWithout();
        x.cups(n);
        x.law(2);
        Due.row(x, 0, 0, 0, 1, 2, 3, 4, 5);
        x.pour(0);
        for (int sort = 0; sort < n; sort++) {
            x.sort(sort, 0, sort == n - 1 ? 8 : 9);
        }
        return x;
    }

    /** Of each sort, the first and the last too: two of it and two others. */
    private static void everySort() {
        for (int sort = 0; sort < 6; sort++) {
            int other = (sort + 1) % 6;
            int third = (sort + 2) % 6;
            TheOneWithout x = Due.tray("cups 4;law 2;pour " + sort + " " + other + " " + sort + " "
                    + third + ";sign 0 3 " + other);
            int both = 1 << sort | 1 << third;
            DUE.promise(22);
            DUE.is("sorts(0)", x.sorts(0), 1 << other);
            DUE.is("sorts(3)", x.sorts(3), both);
            DUE.promise(23);
            DUE.is("LIKELY at 3, most are " + sort, x.likely(3, 0), sort);
            DUE.is("SURE at 3", x.likely(3, 1), 666);
            DUE.promise(25);
            DUE.is("split(3, SORT, 0)", x.split(3, 3, 0), 2);
            DUE.is("split(3, SORT, 1)", x.split(3, 3, 1), 2);
            DUE.promise(35);
            DUE.is("odd(0), all have " + other + " once", x.odd(0), 3);
            DUE.is("odd(3), " + third + " alone", x.odd(3), 1);
            DUE.promise(45);
            DUE.is("unlike SORTS POURED", x.status(4), 3);
        }
        DUE.promise(23);
        for (int sort = 0; sort < 5; sort++) {
            TheOneWithout x = Due.tray("cups 2;law 2;pour 5 " + sort);
            DUE.is("LIKELY: of several the least", x.likely(0, 0), sort);
            DUE.is("LIKELY: of several the least", x.likely(1, 0), sort);
            DUE.is("SURE: half", x.likely(1, 1), 500);
        }
    }

    private static void noneIsPossible() {
        TheOneWithout x = Due.tray("cups 3;law 2;pour 0 1 2;guest 0 1 9;sign 0 3 1");
        x.law(0);
        DUE.promise(20);
        DUE.is("worlds(0)", x.worlds(0), 1);
        DUE.is("worlds(1)", x.worlds(1), 0);
        DUE.promise(21);
        DUE.is("world(0, 0)", x.world(0, 0), -5);
        DUE.promise(22);
        DUE.is("sorts(0)", x.sorts(0), 0);
        DUE.promise(24);
        DUE.is("known()", x.known(), 7);
        DUE.promise(25);
        DUE.is("split(0, 3, 0)", x.split(0, 3, 0), 0);
        DUE.is("split(0, 3, 1)", x.split(0, 3, 1), 0);
        DUE.promise(35);
        DUE.is("odd(0)", x.odd(0), 0);
        DUE.promise(20);
        x.law(2);
        DUE.is("worlds(1) again", x.worlds(1), 2);
    }
}
