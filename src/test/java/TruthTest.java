/** Promises 36, 37 and 39 to 42: what is in truth, looks at it, stairs by draws. */
public final class TruthTest {
    private static final Due DUE = new Due();

    public static void main(String[] args) {
        turned();
        look();
        lookAtWhatWasToldOtherwise();
        lookRefused();
        lookHasRoom();
        stairs();
        drawsOfSeeds();
        truth();
        truthRefused();
        stands();
        seed();
        DUE.end();
    }

    private static void turned() {
        DUE.promise(36);
        TheOneWithout x = Due.tray("cups 4;law 2;pour 0 1 2 3");
        DUE.is("turned()", x.turned(), 0);
        long[][] rows = {{3, 0, 1, 2, 1}, {2, 3, 0, 1, 2}, {1, 2, 3, 0, 3}, {0, 1, 3, 2, -1},
            {3, 2, 1, 0, -1}, {0, 1, 2, 3, 0}};
        for (long[] r : rows) {
            Due.row(x, 0, 0, r[0], r[1], r[2], r[3]);
            DUE.is("truth(0)", x.truth(0), 1);
            DUE.is("turned to " + r[0] + r[1] + r[2] + r[3], x.turned(), r[4]);
        }
        x = Due.tray("cups 4;law 2;pour 0 1 0 1");
        Due.row(x, 0, 0, 1, 0, 1, 0);
        x.truth(0);
        DUE.is("the least", x.turned(), 1);
        DUE.is("NONE isn't refused", x.status(12) + x.status(15), 0);
    }

    private static void look() {
        DUE.promise(37);
        TheOneWithout x = Due.tray("cups 3;law 2;pour 4 5 0;sort 4 7 8 9");
        DUE.is("look(0, 0)", x.look(0, 0), 7);
        DUE.is("look(0, 1)", x.look(0, 1), 8);
        DUE.is("look(0, 2)", x.look(0, 2), 9);
        DUE.is("worlds(1)", x.worlds(1), 2);
        DUE.is("look(1, 3)", x.look(1, 3), 5);
        DUE.is("worlds(1)", x.worlds(1), 1);
        DUE.is("status(3)", x.status(3), 4);
        DUE.is("look(0, 0)", x.look(0, 0), 7);
        DUE.is("known already", x.status(3), 4);
        x.sort(4, 0, 6);
        DUE.is("another number since", x.look(0, 0), 6);
        DUE.is("the sign is known all the same", x.status(3), 4);
        DUE.is("with the number it had", x.worlds(1), 0);
        x.sort(4, 0, 7);
        DUE.is("that comes back", x.worlds(1), 1);
    }

    private static void lookAtWhatWasToldOtherwise() {
        DUE.promise(37);
        TheOneWithout x = Due.tray("cups 3;law 2;pour 0 1 2;sign 0 3 1");
        DUE.is("in truth", x.look(0, 3), 0);
        DUE.is("known already", x.status(3), 1);
        DUE.is("as it was told", x.world(0, 0), 1);
        DUE.is("worlds(1)", x.worlds(1), 2);
        DUE.is("another kind there", x.look(0, 0), 0);
        DUE.is("the same kind elsewhere", x.look(1, 3), 1);
        DUE.is("are unlike signs", x.status(3), 3);
        DUE.is("no world has both", x.worlds(1), 0);
    }

    private static void lookRefused() {
        DUE.promise(37);
        TheOneWithout x = Due.tray("cups 3");
        DUE.refused(x, "look(3, 0)", x.look(3, 0), -2, 1);
        DUE.refused(x, "look(-1, 0)", x.look(-1, 0), -2, 2);
        DUE.refused(x, "look(0, 4)", x.look(0, 4), -2, 3);
        DUE.refused(x, "look(0, -1)", x.look(0, -1), -2, 4);
        DUE.is("status(3)", x.status(3), 0);
    }

    /** At six places there are but 24 signs, so there is always room for the next. */
    private static void lookHasRoom() {
        DUE.promise(37);
        TheOneWithout x = Due.tray("cups 6;law 2;pour 0 1 2 3 4 5");
        for (int v = 0; v < 6; v++) {
            for (int sort = 0; sort < 6; sort++) {
                for (int what = 0; what < 3; what++) {
                    x.sort(sort, what, (v + sort + what) % 10);
                }
            }
            for (int i = 0; i < 24; i++) {
                int due = i % 4 == 3 ? i / 4 : (v + i / 4 + i % 4) % 10;
                DUE.is("look " + i, x.look(i / 4, i % 4), due);
                DUE.is("signs", x.status(3), v == 0 ? i + 1 : 24);
            }
        }
        DUE.refused(x, "BAD", x.look(6, 0), -2, 1);
        DUE.is("never FULL", x.status(16), 0);
        DUE.is("forget()", x.forget(), 24);
        DUE.is("look(0, 2)", x.look(0, 2), 7);
        DUE.is("status(3)", x.status(3), 1);
    }

    private static void stairs() {
        DUE.promise(39);
        TheOneWithout x = Due.tray("cups 3;law 2;pour 0 1 2;sign 0 3 0");
        int seed = 1;
        int[] rows = {12, 21, 102, 120, 201, 210};
        boolean[] seen = new boolean[6];
        for (int i = 0; i < 40; i++) {
            x.look(0, 3);
            DUE.is("stairs()", x.stairs(), 6);
            seed = seed * 1103515245 + 12345;
            int drawn = (seed >>> 16) % 6;
            seen[drawn] = true;
            DUE.is("the seed", x.status(6), seed);
            DUE.is("truth", 100 * x.stands(0) + 10 * x.stands(1) + x.stands(2), rows[drawn]);
            DUE.is("no signs", x.status(3), 0);
        }
        for (boolean s : seen) {
            DUE.is("every world is drawn", s ? 1 : 0, 1);
        }
        x.law(0);
        DUE.is("one world", x.stairs(), 1);
        DUE.is("is drawn, too", x.status(6), seed * 1103515245 + 12345);
        DUE.is("truth", 100 * x.stands(0) + 10 * x.stands(1) + x.stands(2), 12);
        DUE.is("poured stays", x.turned(), 0);
    }

    private static void drawsOfSeeds() {
        DUE.promise(39);
        TheOneWithout x = Due.tray("cups 5;law 1;pour 0 1 2 3 4");
        // 1 becomes 1103527590: above are 16838, modulo 5 that is 3
        x.stairs();
        DUE.is("the first draw", x.stands(0), 3);
        // 0 becomes 12345: above is 0
        x.seed(0);
        x.stairs();
        DUE.is("the draw of seed 0", x.stands(0), 0);
        // 3 becomes -984409216: above are 50515 without a sign
        x.seed(3);
        x.stairs();
        DUE.is("status(6)", x.status(6), -984409216);
        DUE.is("the draw of seed 3", x.stands(0), 50515 % 5);
    }

    private static void truth() {
        DUE.promise(40);
        TheOneWithout x = Due.tray("cups 3;law 2;pour 0 1 2;sign 0 3 0");
        Due.row(x, 0, 3, 2, 0, 1, 77);
        DUE.is("truth(0)", x.truth(0), 1);
        DUE.is("stands(0)", x.stands(0), 2);
        DUE.is("stands(1)", x.stands(1), 0);
        DUE.is("stands(2)", x.stands(2), 1);
        DUE.is("no signs", x.status(3), 0);
        DUE.is("poured stays", x.turned(), 1);
        x.law(0);
        DUE.is("worlds(0)", x.worlds(0), 1);
        DUE.is("as poured alone", x.truth(0), -5);
        x.law(1);
        DUE.is("turned", x.truth(0), 1);
        Due.row(x, 0, 3, 1, 0, 2);
        DUE.is("not turned so", x.truth(0), -5);
    }

    private static void truthRefused() {
        DUE.promise(40);
        TheOneWithout x = Due.tray("cups 3;law 2;pour 0 1 2;sign 0 3 0");
        x.teller(0, 0);
        x.show(1, 0);
        Due.row(x, 2, 2, 0, 1);
        Due.row(x, 3, 2, 0, 1, 1);
        Due.row(x, 4, 2, 0, 1, 6);
        Due.row(x, 5, 3, 0, 1, (1L << 32) + 2);
        DUE.refused(x, "truth(8)", x.truth(8), -2, 1);
        DUE.refused(x, "truth(-1)", x.truth(-1), -2, 2);
        DUE.refused(x, "a teller", x.truth(1), -3, 1);
        DUE.refused(x, "nothing", x.truth(0), -4, 1);
        DUE.refused(x, "fewer elements", x.truth(2), -2, 3);
        DUE.refused(x, "no such sort", x.truth(4), -2, 4);
        DUE.refused(x, "no such sort", x.truth(5), -2, 5);
        DUE.refused(x, "no world", x.truth(3), -5, 1);
        DUE.is("nothing changes", x.stands(2), 2);
        DUE.is("nothing changes", x.status(3), 1);
    }

    private static void stands() {
        DUE.promise(41);
        TheOneWithout x = Due.tray("cups 4;pour 5 4 3 2");
        for (int place = 0; place < 4; place++) {
            DUE.is("stands(" + place + ")", x.stands(place), 5 - place);
        }
        DUE.refused(x, "stands(4)", x.stands(4), -2, 1);
        DUE.refused(x, "stands(-1)", x.stands(-1), -2, 2);
    }

    private static void seed() {
        DUE.promise(42);
        TheOneWithout x = new TheOneWithout();
        DUE.is("seed(7)", x.seed(7), 1);
        DUE.is("seed(MIN)", x.seed(Integer.MIN_VALUE), 7);
        DUE.is("seed(-1)", x.seed(-1), Integer.MIN_VALUE);
        DUE.is("status(6)", x.status(6), -1);
    }
}
