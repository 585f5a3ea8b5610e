import java.util.ArrayList;
import java.util.List;

/**
 * Objects on which something of all kinds stands, each time the same, and all that can be seen of
 * one. Making one and seeing all of it stays below the 512 calls that an object is used for.
 */
final class Scenes {
    /** A right handing of as many elements as cups: bytes. */
    static final int HANDING = 0;
    /** A row that is a world: shorts. */
    static final int WORLD = 1;
    /** One element fewer than cups: ints. */
    static final int SHORT = 2;
    /** As many elements as cups, all 0, so that it is neither a handing nor a world: longs. */
    static final int WRONG = 3;
    /** 40 elements: booleans. */
    static final int LONG = 4;
    static final int EMPTY = 5;
    static final int TURNER = 6;
    static final int HANDER = 7;

    private static final int[] POURED = {1, 0, 2, 1, 3, 5};
    private static final int[][] NUMBERS = {{3, 0, 5}, {3, 1, 5}, {7, 0, 5}, {7, 1, 6}, {9, 2, 6},
        {0, 9, 6}};
    private static final int[] ENDS = {0, 1, 2, 3, 4, 5, 39};

    private Scenes() {
    }

    /** Cups, signs, guests, three tellers, shelves, a tape, an image and refusals. */
    static TheOneWithout full(int n) {
        TheOneWithout x = new TheOneWithout();
        x.cups(2);
        x.teller(2, 9);
        x.image();
        Due.row(x, WORLD, 1, world(n));
        x.cups(n);
        x.law(2);
        x.pour(WORLD);
        for (int sort = 0; sort < 6; sort++) {
            for (int what = 0; what < 3; what++) {
                x.sort(sort, what, NUMBERS[sort][what]);
            }
        }
        x.seed(n);
        x.stairs();
        x.look(0, 0);
        x.look(1, 2);
        guestsAndTellers(x, n);
        shelves(x, n);
        Due.feed(x, "law1;law 0");
        refusals(x);
        return x;
    }

    static TheOneWithout full() {
        return full(4);
    }

    static TheOneWithout fullOfTellers() {
        TheOneWithout x = full();
        x.teller(4, 6);
        return x;
    }

    /** What is known at places 0 and 1 no world has any more. */
    static TheOneWithout noneIsPossible() {
        TheOneWithout x = full();
        for (int sort = 0; sort < 6; sort++) {
            x.sort(sort, 0, 8);
        }
        return x;
    }

    static TheOneWithout fullTape() {
        TheOneWithout x = Due.tray("cups 2;pour 0 1;law 2");
        for (int i = 1; i <= 250; i++) {
            x.feed(i <= 6 ? "law 1;".charAt(i - 1) : i == 250 ? '?' : ' ');
        }
        return x;
    }

    /** 24 signs, each of six places: shade, weight, heat, sort. */
    static TheOneWithout fullOfSigns() {
        TheOneWithout x = full(6);
        for (int place = 0; place < 6; place++) {
            for (int kind = 0; kind < 4; kind++) {
                x.look(place, kind);
            }
        }
        return x;
    }

    private static long[] world(int n) {
        long[] row = new long[n];
        for (int place = 0; place < n; place++) {
            row[place] = POURED[place];
        }
        return row;
    }

    private static void guestsAndTellers(TheOneWithout x, int n) {
        for (int guest = 0; guest < n; guest++) {
            x.guest(guest, guest == 1 ? -1 : (guest + 1) % 4, 3 + guest);
        }
        x.teller(1, 7);
        x.teller(5, 2);
    }

    private static void shelves(TheOneWithout x, int n) {
        x.row(HANDING, 0, n);
        for (int guest = 0; guest < n; guest++) {
            x.set(HANDING, guest, (guest + 1) % n);
        }
        Due.row(x, SHORT, 2, new long[n - 1]);
        x.set(SHORT, 0, 77);
        Due.row(x, WRONG, 3, new long[n]);
        x.row(LONG, 4, 40);
        x.set(LONG, 39, 1);
        x.set(LONG, 2, 1);
        x.show(TURNER, 1);
        x.show(HANDER, 2);
    }

    /** Unlike numbers of refusals, so that one can't be taken for another. */
    private static void refusals(TheOneWithout x) {
        x.cups(7);
        for (int i = 0; i < 2; i++) {
            x.set(TURNER, 0, 0);
        }
        for (int i = 0; i < 3; i++) {
            x.set(EMPTY, 0, 0);
        }
        for (int i = 0; i < 4; i++) {
            x.handing(WRONG, 0);
        }
    }

    /** Each answer with its name; the last of these calls change the object. */
    static List<String> all(TheOneWithout x) {
        List<String> seen = new ArrayList<>();
        int n = x.status(0);
        for (int what = 0; what <= 7; what++) {
            seen.add("status(" + what + ") " + x.status(what));
        }
        seeShelves(x, n, seen);
        seeWorlds(x, n, seen);
        seeGuests(x, n, seen);
        for (int teller = 0; teller < x.status(2); teller++) {
            seen.add("tells(" + teller + ") " + x.tells(teller));
        }
        seeSigns(x, n, seen);
        for (int sort = 0; sort < 6; sort++) {
            for (int what = 0; what < 3; what++) {
                seen.add("sort(" + sort + ", " + what + ") " + x.sort(sort, what, 0));
            }
        }
        seen.add("stair() " + x.stair() + ", law " + x.status(1));
        seen.add("back() " + x.back());
        for (int what = 0; what <= 7; what++) {
            seen.add("behind back(): status(" + what + ") " + x.status(what));
        }
        return seen;
    }

    private static void seeShelves(TheOneWithout x, int n, List<String> seen) {
        int[] sizes = {1, n - 1, n, 40};
        for (int s = 0; s < 8; s++) {
            int held = x.holds(s);
            seen.add("holds(" + s + ") " + held);
            if (held >= 10) {
                seen.add("says(" + s + ", 0) " + x.says(s, 0));
            } else if (held >= 0) {
                for (int i : ENDS) {
                    seen.add("element(" + s + ", " + i + ") " + x.element(s, i));
                }
                for (int size : sizes) {
                    seen.add(size + " elements of " + s + " " + x.copy(s, s, 0, 0, size));
                }
            }
        }
    }

    private static void seeWorlds(TheOneWithout x, int n, List<String> seen) {
        seen.add("worlds(0) " + x.worlds(0));
        seen.add("worlds(1) " + x.worlds(1));
        seen.add("known() " + x.known());
        seen.add("turned() " + x.turned());
        seen.add("next(15) " + x.next(15));
        seen.add("marks(3) " + x.marks(3));
        for (int place = 0; place < n; place++) {
            seen.add("stands(" + place + ") " + x.stands(place));
            seen.add("sorts(" + place + ") " + x.sorts(place));
            seen.add("likely(" + place + ", 1) " + x.likely(place, 1));
            seen.add("world(1, " + place + ") " + x.world(1, place));
            for (int kind = 0; kind < 4; kind++) {
                seen.add("split(" + place + ", " + kind + ", 1) " + x.split(place, kind, 1));
            }
        }
    }

    private static void seeGuests(TheOneWithout x, int n, List<String> seen) {
        for (int guest = 0; guest < n; guest++) {
            seen.add("best(" + guest + ") " + x.best(guest));
            for (int place = 0; place < n; place++) {
                seen.add("mind(" + guest + ", " + place + ") " + x.mind(guest, place));
            }
        }
        seen.add("best(-1) " + x.best(-1));
        for (int what = 0; what < 3; what++) {
            seen.add("handing(0, " + what + ") " + x.handing(HANDING, what));
        }
    }

    /** A look at a sign that is not known yet adds one. */
    private static void seeSigns(TheOneWithout x, int n, List<String> seen) {
        for (int place = 0; place < n; place++) {
            for (int kind = 0; kind < 4; kind++) {
                seen.add("look(" + place + ", " + kind + ") " + x.look(place, kind)
                        + ", signs " + x.status(3));
            }
        }
    }
}
