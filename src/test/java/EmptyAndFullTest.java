/** What is empty (a shelf, the tape, no signs, no tellers, a row of none), and what is full. */
public final class EmptyAndFullTest {
    private static final Due DUE = new Due();
    private static final int NONE = TheOneWithout.NONE;
    private static final int BAD = -2;
    private static final int NOTHING = -4;
    private static final int FULL = -6;

    public static void main(String[] args) {
        emptyShelves();
        shelvesEmptiedAgain();
        emptyRows();
        fullRows();
        fullShelves();
        emptyTape();
        tapeEmptiedAgain();
        fullTape();
        noTellers();
        fullOfTellers();
        roomForTellersAgain();
        noSigns();
        whatEndsSigns();
        fullOfSigns();
        fullOfSignsAgain();
        DUE.end();
    }

    private static void emptyShelves() {
        for (int s = 0; s < 8; s++) {
            TheOneWithout x = new TheOneWithout();
            DUE.promise(1);
            DUE.is("holds: NOTHING at first in " + s, x.holds(s), NONE);
            DUE.is("element: none at first in " + s, x.element(s, 0), 0);
            DUE.promise(3);
            DUE.refused(x, "set: NOTHING in " + s, x.set(s, 0, 1), NOTHING, 1);
            DUE.promise(4);
            DUE.refused(x, "copy: NOTHING in " + s, x.copy(s, 7 - s, 0, 0, 0), NOTHING, 2);
            DUE.promise(8);
            DUE.refused(x, "says: NOTHING in " + s, x.says(s, 0), NOTHING, 3);
            DUE.promise(10);
            DUE.refused(x, "pour: NOTHING in " + s, x.pour(s), NOTHING, 4);
            DUE.promise(30);
            DUE.refused(x, "judge: NOTHING in " + s, x.judge(s), NOTHING, 5);
            DUE.promise(31);
            DUE.refused(x, "handing: NOTHING in " + s, x.handing(s, 0), NOTHING, 6);
            DUE.promise(40);
            DUE.refused(x, "truth: NOTHING in " + s, x.truth(s), NOTHING, 7);
            DUE.promise(45);
            DUE.is("SHELVES that hold something", x.status(7), 0);
        }
    }

    private static void shelvesEmptiedAgain() {
        DUE.promise(7);
        TheOneWithout x = Scenes.full();
        for (int s = 0; s < 8; s++) {
            int held = x.status(7);
            int more = x.holds(s) == NONE ? 0 : 1;
            DUE.is("show NONE on " + s, x.show(s, NONE), 1);
            DUE.is("holds: NOTHING", x.holds(s), NONE);
            DUE.is("element: no ROW", x.element(s, 0), 0);
            DUE.is("SHELVES that hold something", x.status(7), held - more);
            DUE.is("set: NOTHING", x.set(s, 0, 1), NOTHING);
        }
        DUE.is("row: behind show NONE", x.row(4, 4, 40), 1);
        DUE.is("a new ROW's element", x.element(4, 39), 0);
        DUE.is("a new ROW's element", x.element(4, 2), 0);
    }

    private static void emptyRows() {
        DUE.promise(2);
        TheOneWithout x = new TheOneWithout();
        for (int sort = 0; sort < 5; sort++) {
            DUE.is("row of none", x.row(sort, sort, 0), 1);
            DUE.is("holds a ROW, not NOTHING", x.holds(sort), sort);
        }
        DUE.promise(45);
        DUE.is("SHELVES that hold something", x.status(7), 5);
        DUE.promise(3);
        DUE.refused(x, "set of none", x.set(0, 0, 1), BAD, 1);
        DUE.promise(4);
        DUE.is("copy of none to itself", x.copy(0, 0, 0, 0, 0), 0);
        DUE.refused(x, "copy of one of none", x.copy(0, 0, 0, 0, 1), BAD, 2);
        DUE.refused(x, "copy of none behind none", x.copy(0, 0, 1, 0, 0), BAD, 3);
        DUE.refused(x, "copy of none behind none", x.copy(0, 0, 0, 1, 0), BAD, 4);
        DUE.promise(5);
        DUE.is("element of none", x.element(0, 0), 0);
        DUE.promise(10);
        DUE.refused(x, "pour of none", x.pour(0), BAD, 5);
        DUE.promise(30);
        DUE.refused(x, "judge of none", x.judge(0), BAD, 6);
        DUE.promise(31);
        DUE.refused(x, "handing of none", x.handing(0, 1), BAD, 7);
        DUE.promise(40);
        DUE.refused(x, "truth of none", x.truth(0), BAD, 8);
    }

    private static void fullRows() {
        DUE.promise(2);
        TheOneWithout x = new TheOneWithout();
        DUE.is("row of 40", x.row(2, 3, 40), 1);
        DUE.is("row of 40", x.row(3, 3, 40), 1);
        DUE.is("row of 40", x.row(1, 3, 40), 1);
        DUE.promise(3);
        for (int i = 0; i < 40; i++) {
            DUE.is("set(2, " + i + ")", x.set(2, i, 1000 + i), 1);
        }
        DUE.refused(x, "set of the 41st", x.set(2, 40, 1), BAD, 1);
        DUE.promise(5);
        for (int i = 0; i < 40; i++) {
            DUE.is("element(2, " + i + ")", x.element(2, i), 1000 + i);
        }
        DUE.is("no element in the SHELF behind", x.element(3, 0), 0);
        DUE.is("no element in the SHELF ahead", x.element(1, 39), 0);
        DUE.promise(4);
        DUE.is("copy of all 40", x.copy(2, 3, 0, 0, 40), 40);
        DUE.is("copy within, up by one", x.copy(2, 2, 0, 1, 39), 39);
        for (int i = 0; i < 40; i++) {
            DUE.is("copied to " + i, x.element(3, i), 1000 + i);
            DUE.is("as it was at " + i, x.element(2, i), 1000 + Math.max(0, i - 1));
        }
        DUE.is("copy within, down by one", x.copy(3, 3, 1, 0, 39), 39);
        for (int i = 0; i < 40; i++) {
            DUE.is("as it was at " + i, x.element(3, i), 1000 + Math.min(39, i + 1));
        }
        DUE.is("no element in the SHELF ahead", x.element(1, 39), 0);
    }

    private static void fullShelves() {
        DUE.promise(45);
        TheOneWithout x = new TheOneWithout();
        x.teller(0, 1);
        for (int s = 0; s < 8; s++) {
            DUE.is("SHELVES that hold something", x.status(7), s);
            if (s % 2 == 0) {
                x.row(s, s / 2, 0);
            } else {
                x.show(s, 0);
            }
        }
        DUE.is("all SHELVES hold something", x.status(7), 8);
        x.row(7, 0, 0);
        DUE.is("a ROW for a TELLER", x.status(7), 8);
    }

    private static void emptyTape() {
        TheOneWithout x = new TheOneWithout();
        DUE.promise(45);
        DUE.is("THE TAPE's size", x.status(5), 0);
        DUE.promise(18);
        DUE.is("wipe: its size ahead", x.wipe(), 0);
        DUE.promise(19);
        DUE.is("stair: it ends too early, at 0", x.stair(), -20);
        DUE.is("that is refused, too: BAD", x.status(12), 1);
        DUE.promise(17);
        DUE.is("feed: the first", x.feed(' '), 1);
        DUE.promise(19);
        DUE.is("stair: it ends too early, at 1", x.stair(), -21);
        DUE.is("BAD", x.status(12), 2);
    }

    private static void tapeEmptiedAgain() {
        TheOneWithout x = new TheOneWithout();
        DUE.promise(19);
        DUE.is("stair", Due.stair(x, "law 2;law 2"), 2);
        DUE.is("THE TAPE is empty then", x.status(5), 0);
        DUE.is("wipe", x.wipe(), 0);
        DUE.is("a fault", Due.stair(x, "law 3;law 2"), -24);
        DUE.is("THE TAPE is empty then, too", x.status(5), 0);
        DUE.is("wipe", x.wipe(), 0);
        DUE.is("the next is read from its first byte", Due.stair(x, "law 0"), 1);
        DUE.promise(18);
        Due.feed(x, "law 3;");
        DUE.is("wipe: its size ahead", x.wipe(), 6);
        DUE.is("THE TAPE is empty", x.status(5), 0);
        DUE.is("the next is read from its first byte", Due.stair(x, "law 1"), 1);
        DUE.promise(9);
        Due.feed(x, "law");
        x.cups(3);
        x.forget();
        x.image();
        x.back();
        DUE.promise(44);
        DUE.is("THE TAPE stays behind back", x.wipe(), 3);
    }

    private static void fullTape() {
        DUE.promise(17);
        TheOneWithout x = new TheOneWithout();
        for (int size = 1; size <= 250; size++) {
            DUE.is("feed", x.feed(size == 250 ? '1' : size < 4 ? "law".charAt(size - 1) : ' '),
                    size);
        }
        DUE.refused(x, "feed of the 251st", x.feed('1'), FULL, 1);
        DUE.refused(x, "feed of the 251st", x.feed('2'), FULL, 2);
        DUE.is("THE TAPE's size", x.status(5), 250);
        DUE.promise(19);
        DUE.is("stair of 250 bytes", x.stair(), 1);
        DUE.is("status(1)", x.status(1), 1);
        DUE.promise(17);
        DUE.is("feed: room again", x.feed('l'), 1);
        DUE.promise(18);
        x = new TheOneWithout();
        for (int size = 1; size <= 250; size++) {
            x.feed('z');
        }
        DUE.is("wipe: its size ahead", x.wipe(), 250);
        DUE.is("feed: room again", x.feed('l'), 1);
    }

    private static void noTellers() {
        TheOneWithout x = new TheOneWithout();
        DUE.promise(45);
        DUE.is("TELLERS", x.status(2), 0);
        DUE.promise(7);
        DUE.refused(x, "show: nothing of that number", x.show(0, 0), BAD, 1);
        DUE.is("show NONE", x.show(0, NONE), 1);
        DUE.promise(34);
        DUE.refused(x, "tells: nothing of that number", x.tells(0), BAD, 2);
        DUE.promise(38);
        DUE.refused(x, "tries: nothing of that number", x.tries(0), BAD, 3);
        DUE.promise(14);
        DUE.is("teller: numbers from 0 on", x.teller(0, 0), 0);
        DUE.is("TELLERS", x.status(2), 1);
    }

    private static void fullOfTellers() {
        DUE.promise(14);
        TheOneWithout x = new TheOneWithout();
        for (int teller = 0; teller < 4; teller++) {
            DUE.is("teller: the number", x.teller(teller + 1, 9 - teller), teller);
        }
        DUE.refused(x, "teller: the fifth", x.teller(0, 0), FULL, 1);
        DUE.is("TELLERS", x.status(2), 4);
        for (int teller = 0; teller < 4; teller++) {
            DUE.promise(7);
            DUE.is("show", x.show(teller, teller), 1);
            DUE.promise(6);
            DUE.is("holds 10 and the number", x.holds(teller), 10 + teller);
            DUE.promise(8);
            DUE.is("says its a", x.says(teller, 0), 9 - teller);
        }
        DUE.promise(7);
        DUE.refused(x, "show: the fifth", x.show(0, 4), BAD, 1);
        DUE.promise(34);
        DUE.is("tells: the fourth", x.tells(3), NONE);
        DUE.refused(x, "tells: the fifth", x.tells(4), BAD, 2);
    }

    private static void roomForTellersAgain() {
        DUE.promise(44);
        TheOneWithout x = new TheOneWithout();
        x.teller(1, 1);
        x.image();
        for (int teller = 1; teller < 4; teller++) {
            x.teller(0, 5);
        }
        x.show(0, 3);
        x.show(1, 0);
        DUE.is("the fifth", x.teller(0, 0), FULL);
        DUE.is("back", x.back(), 1);
        DUE.is("TELLERS", x.status(2), 1);
        DUE.is("SHELVES with TELLERS: NOTHING", x.holds(0), NONE);
        DUE.is("SHELVES with TELLERS: the same number", x.holds(1), 10);
        DUE.is("SHELVES that hold something", x.status(7), 1);
        for (int teller = 1; teller < 4; teller++) {
            DUE.is("room again", x.teller(0, 6), teller);
        }
        DUE.refused(x, "the fifth", x.teller(0, 0), FULL, 2);
    }

    private static void noSigns() {
        TheOneWithout x = Due.tray("cups 4;law 2;pour 0 1 2 3;sort 1 1 1 1");
        DUE.promise(45);
        DUE.is("SIGNS", x.status(3), 0);
        DUE.promise(16);
        DUE.is("forget: how many there were", x.forget(), 0);
        DUE.promise(20);
        DUE.is("all WORLDS are POSSIBLE", x.worlds(1), x.worlds(0));
        DUE.promise(24);
        DUE.is("KNOWN", x.known(), 0);
        DUE.promise(15);
        DUE.is("the first SIGN", x.sign(3, 2, 1), 6);
        DUE.promise(16);
        DUE.is("forget: how many there were", x.forget(), 1);
        DUE.is("SIGNS", x.status(3), 0);
        DUE.is("all are POSSIBLE again", x.worlds(1), 24);
    }

    private static TheOneWithout withSigns() {
        TheOneWithout x = Due.tray("cups 4;law 2;pour 0 1 2 3;sign 0 3 0;sign 3 3 3");
        Due.row(x, 0, 0, 0, 2, 1, 3);
        return x;
    }

    private static void whatEndsSigns() {
        noSignsBehind(9, "cups", x -> x.cups(4), 1);
        noSignsBehind(10, "pour", x -> x.pour(0), 24);
        noSignsBehind(16, "forget", x -> x.forget(), 24);
        noSignsBehind(19, "a STAIR's cups", x -> Due.stair(x, "cups 4"), 1);
        noSignsBehind(19, "a STAIR's pour", x -> Due.stair(x, "pour 0 2 1 3"), 24);
        noSignsBehind(39, "stairs", x -> x.stairs(), 24);
        noSignsBehind(40, "truth", x -> x.truth(0), 24);
        signsStay(11, "law", x -> x.law(2));
        signsStay(12, "sort", x -> x.sort(0, 0, 3));
        signsStay(13, "guest", x -> x.guest(0, 0, 3));
        signsStay(14, "teller", x -> x.teller(0, 0));
        signsStay(19, "a STAIR's law", x -> Due.stair(x, "law 2"));
        signsStay(19, "a STAIR's sort", x -> Due.stair(x, "sort 0 1 2 3"));
        signsStay(19, "a STAIR's guest", x -> Due.stair(x, "guest 0 1 2"));
        signsStay(42, "seed", x -> x.seed(3));
        signsStay(43, "image", x -> x.image());
    }

    private static void noSignsBehind(int promise, String word, Due.Call call, int possible) {
        DUE.promise(promise);
        TheOneWithout x = withSigns();
        DUE.is("SIGNS ahead of " + word, x.status(3), 2);
        call.on(x);
        DUE.is("SIGNS behind " + word, x.status(3), 0);
        DUE.is("POSSIBLE ones behind " + word, x.worlds(1), possible);
    }

    private static void signsStay(int promise, String word, Due.Call call) {
        DUE.promise(promise);
        TheOneWithout x = withSigns();
        call.on(x);
        DUE.is("SIGNS behind " + word, x.status(3), 2);
        DUE.is("POSSIBLE ones behind " + word, x.worlds(1), 2);
    }

    private static void fullOfSigns() {
        DUE.promise(37);
        TheOneWithout x = Due.tray("cups 6;law 2;pour 0 1 2 3 4 5;sort 1 1 2 3;sort 5 9 8 7");
        for (int i = 0; i < 24; i++) {
            DUE.is("SIGNS", x.status(3), i);
            x.look(i / 4, i % 4);
        }
        DUE.is("24 SIGNS", x.status(3), 24);
        int[] due = {1, 2, 3, 1};
        for (int kind = 0; kind < 4; kind++) {
            DUE.is("look: known already, not FULL", x.look(1, kind), due[kind]);
        }
        DUE.promise(15);
        DUE.is("sign: known already, not FULL", x.sign(5, 0, 9), 1);
        DUE.is("sign: known already, not FULL", x.sign(5, 3, 5), 1);
        DUE.promise(19);
        DUE.is("a STAIR's sign: known already", Due.stair(x, "sign 5 1 8;sign 0 2 0"), 2);
        DUE.promise(38);
        for (int kind = 0; kind < 4; kind++) {
            x.teller(kind, 0);
            DUE.is("tries: no look", x.tries(kind), 0);
        }
        DUE.promise(37);
        DUE.is("24 SIGNS, each once", x.status(3), 24);
        DUE.is("never FULL", x.status(16), 0);
        DUE.is("look: BAD all the same", x.look(6, 0), BAD);
        DUE.promise(16);
        DUE.is("forget: how many there were", x.forget(), 24);
    }

    /** All 24 again, with other numbers, behind each call that ends the signs there were. */
    private static void fullOfSignsAgain() {
        DUE.promise(37);
        TheOneWithout x = Scenes.fullOfSigns();
        DUE.is("24 SIGNS", x.status(3), 24);
        for (int sort = 0; sort < 6; sort++) {
            x.sort(sort, 0, 4);
        }
        DUE.is("none is POSSIBLE", x.worlds(1), 0);
        for (int place = 0; place < 6; place++) {
            DUE.is("look: known with the number it had", x.look(place, 0), 4);
        }
        DUE.is("24 SIGNS", x.status(3), 24);
        DUE.is("none is POSSIBLE", x.worlds(1), 0);
        x.stairs();
        for (int i = 23; i >= 0; i--) {
            x.look(i / 4, i % 4);
        }
        DUE.is("24 SIGNS", x.status(3), 24);
        DUE.is("one is POSSIBLE", x.worlds(1), 1);
        DUE.is("never FULL", x.status(16), 0);
    }
}
