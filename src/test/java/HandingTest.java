/** Promises 30 to 33: handings told, the best one, and what is minded. */
public final class HandingTest {
    private static final Due DUE = new Due();
    private static final String GUESTS = "cups 3;law 2;pour 0 1 2;"
            + "guest 0 0 5;guest 1 1 3;guest 2 2 1";

    public static void main(String[] args) {
        judge();
        judgeRefused();
        mean();
        costInTruth();
        swaps();
        swapsOfGuestsWhoTakeAny();
        handingRefused();
        best();
        bestByRows();
        mind();
        lastGuests();
        lastPlaces();
        guestsAsManyAsCups();
        noneIsPossible();
        DUE.end();
    }

    private static void judge() {
        DUE.promise(30);
        TheOneWithout x = Due.tray("cups 3");
        long[][] cases = {
            {0, 1, 2, -1}, {2, 0, 1, -1}, {0, 0, 1, 1}, {0, 1, 0, 2}, {1, 1, 1, 1},
            {3, 0, 1, 0}, {-1, 0, 1, 0}, {0, 3, 3, 1}, {0, 1, -1, 2}, {0, 1, 1L << 32, 2},
            {5, 5, 5, 0}, {0, 1, 5, 2}, {0, (1L << 32) + 1, 2, 1},
        };
        for (long[] c : cases) {
            Due.row(x, 0, 3, c[0], c[1], c[2]);
            DUE.is("judge of " + c[0] + " " + c[1] + " " + c[2], x.judge(0), c[3]);
        }
        Due.row(x, 1, 0, 2, 1, 0, 0, 9);
        DUE.is("more elements than cups", x.judge(1), -1);
        x.cups(5);
        DUE.is("with more cups", x.judge(1), 3);
        x.cups(2);
        Due.row(x, 2, 4, 1, 0);
        DUE.is("booleans", x.judge(2), -1);
    }

    private static void judgeRefused() {
        DUE.promise(30);
        TheOneWithout x = Due.tray("cups 3");
        x.teller(0, 0);
        x.show(1, 0);
        Due.row(x, 2, 2, 7, 8);
        DUE.refused(x, "judge(8)", x.judge(8), -2, 1);
        DUE.refused(x, "judge(-1)", x.judge(-1), -2, 2);
        DUE.refused(x, "a teller", x.judge(1), -3, 1);
        DUE.refused(x, "nothing", x.judge(0), -4, 1);
        DUE.refused(x, "fewer elements", x.judge(2), -2, 3);
    }

    private static void mean() {
        DUE.promise(31);
        TheOneWithout x = Due.tray(GUESTS);
        Due.row(x, 0, 0, 0, 1, 2);
        Due.row(x, 1, 1, 1, 0, 2);
        DUE.is("four of six wrong for each", x.handing(0, 0), 36);
        Due.stair(x, "sign 0 3 0");
        DUE.is("012 and 021", x.handing(0, 0), 4);
        DUE.is("swapped two", x.handing(1, 0), 17);
        Due.stair(x, "sign 1 3 1");
        DUE.is("012", x.handing(0, 0), 0);
        DUE.is("012 swapped two", x.handing(1, 0), 8);
        x.guest(0, -1, 9);
        DUE.is("who takes any minds none", x.handing(1, 0), 3);
        x.guest(0, 5, 9);
        DUE.is("what isn't there is wrong", x.handing(0, 0), 9);
    }

    private static void costInTruth() {
        DUE.promise(31);
        TheOneWithout x = Due.tray(GUESTS);
        Due.row(x, 0, 0, 0, 1, 2);
        Due.row(x, 1, 1, 1, 2, 0, 9);
        DUE.is("all right", x.handing(0, 2), 0);
        DUE.is("all wrong", x.handing(1, 2), 9);
        Due.row(x, 2, 2, 0, 2, 1);
        x.truth(2);
        DUE.is("in another truth", x.handing(0, 2), 4);
        x.guest(1, -1, 9);
        DUE.is("who takes any minds none", x.handing(0, 2), 1);
    }

    private static void swaps() {
        DUE.promise(31);
        TheOneWithout x = Due.tray("cups 4;law 2;pour 0 1 2 3;guest 0 0 0;guest 1 1 0;"
                + "guest 2 2 0;guest 3 3 0");
        long[][] cases = {
            {0, 1, 2, 3, 0}, {1, 0, 2, 3, 1}, {1, 0, 3, 2, 2}, {1, 2, 0, 3, 2}, {1, 2, 3, 0, 3},
            {3, 1, 2, 0, 1}, {2, 3, 0, 1, 2}, {3, 0, 1, 2, 3},
        };
        for (long[] c : cases) {
            Due.row(x, 0, 0, c[0], c[1], c[2], c[3]);
            DUE.is("swaps of " + c[0] + c[1] + c[2] + c[3], x.handing(0, 1), c[4]);
        }
        x.guest(3, 2, 0);
        DUE.is("two want the one", x.handing(0, 1), -1);
        DUE.is("NONE isn't refused", x.status(15) + x.status(12), 0);
        Due.row(x, 1, 0, 0, 1, 3, 2);
        Due.row(x, 2, 0, 0, 2, 3, 1);
        Due.stair(x, "pour 0 1 2 2");
        DUE.is("either of two alike", x.handing(1, 1), 0);
        DUE.is("the nearer of two alike", x.handing(2, 1), 1);
    }

    private static void swapsOfGuestsWhoTakeAny() {
        DUE.promise(31);
        TheOneWithout x = Due.tray("cups 5;law 2;pour 0 1 2 3 4;guest 0 1 0;guest 1 2 0");
        Due.row(x, 0, 0, 0, 1, 2, 3, 4);
        DUE.is("two swaps at least", x.handing(0, 1), 2);
        x.guest(0, -1, 0);
        DUE.is("one", x.handing(0, 1), 1);
        x.guest(1, -1, 0);
        DUE.is("none", x.handing(0, 1), 0);
        x.guest(4, 5, 0);
        DUE.is("there is no 5", x.handing(0, 1), -1);
        Due.stair(x, "cups 6;pour 0 1 2 3 4 5;guest 4 4 0;guest 0 5 0;guest 5 0 0;guest 1 2 0");
        Due.row(x, 0, 0, 0, 1, 2, 3, 4, 5);
        DUE.is("two pairs", x.handing(0, 1), 2);
        Due.stair(x, "guest 0 1 0;guest 1 2 0;guest 2 3 0;guest 3 4 0;guest 4 5 0;guest 5 0 0");
        DUE.is("once round", x.handing(0, 1), 5);
    }

    private static void handingRefused() {
        DUE.promise(31);
        TheOneWithout x = Due.tray("cups 3");
        x.teller(0, 0);
        x.show(1, 0);
        Due.row(x, 2, 2, 7, 8);
        Due.row(x, 3, 2, 0, 1, 1);
        Due.row(x, 4, 2, 0, 1, 2);
        DUE.refused(x, "handing(8, 0)", x.handing(8, 0), -2, 1);
        DUE.refused(x, "handing(-1, 0)", x.handing(-1, 0), -2, 2);
        DUE.refused(x, "what is ahead of OTHER", x.handing(1, 3), -2, 3);
        DUE.refused(x, "what is ahead of NOTHING", x.handing(0, -1), -2, 4);
        DUE.refused(x, "a teller", x.handing(1, 0), -3, 1);
        DUE.refused(x, "nothing", x.handing(0, 2), -4, 1);
        DUE.refused(x, "fewer elements", x.handing(2, 1), -2, 5);
        for (int what = 0; what < 3; what++) {
            DUE.refused(x, "WRONG", x.handing(3, what), -5, what + 1);
            DUE.is("not WRONG", x.handing(4, what), 0);
        }
    }

    private static void best() {
        DUE.promise(32);
        TheOneWithout x = Due.tray("cups 3;law 2;pour 0 1 1;guest 0 0 9;guest 1 0 4;"
                + "guest 2 1 2;sign 0 3 1");
        DUE.is("mean: 0 gets one of two, 1 wrong half, 2 wrong never", x.best(-1), 9 + 4);
        DUE.is("best(0)", x.best(0), 1);
        DUE.is("best(1)", x.best(1), 2);
        DUE.is("best(2)", x.best(2), 0);
        Due.stair(x, "sign 2 3 0");
        DUE.is("best(NONE)", x.best(-1), 4);
        DUE.is("best(0)", x.best(0), 2);
        DUE.is("best(1)", x.best(1), 0);
        DUE.is("best(2)", x.best(2), 1);
        DUE.refused(x, "best(3)", x.best(3), -2, 1);
        DUE.refused(x, "best(-2)", x.best(-2), -2, 2);
        TheOneWithout y = Due.tray("cups 6;law 0;pour 5 4 3 2 1 0;guest 0 0 1;guest 1 1 1;"
                + "guest 2 2 1;guest 3 3 1;guest 4 4 1;guest 5 5 1");
        for (int guest = 0; guest < 6; guest++) {
            DUE.is("best(" + guest + ")", y.best(guest), 5 - guest);
        }
        DUE.is("best(NONE)", y.best(-1), 0);
    }

    private static void bestByRows() {
        DUE.promise(32);
        TheOneWithout x = Due.tray("cups 3;law 0;pour 0 1 1;guest 0 1 1;guest 1 1 1;guest 2 1 1");
        DUE.is("best(NONE)", x.best(-1), 1);
        for (int guest = 0; guest < 3; guest++) {
            DUE.is("the first row of several", x.best(guest), guest);
        }
        x.guest(1, 1, 0);
        DUE.is("who minds none is wrong", x.best(1), 0);
        DUE.is("and the others right, in order", x.best(0), 1);
        DUE.is("and the others right, in order", x.best(2), 2);
    }

    private static void mind() {
        DUE.promise(33);
        TheOneWithout x = Due.tray("cups 4;law 2;pour 0 0 1 2;guest 0 0 0;guest 1 2 9;guest 2 5 1");
        DUE.is("half of 12", x.mind(0, 3), 6);
        DUE.is("three of four", x.mind(1, 3), 9);
        DUE.is("not there", x.mind(2, 0), 12);
        DUE.is("wants none", x.mind(3, 0), 0);
        Due.stair(x, "sign 3 3 2");
        DUE.is("mind(0, 3)", x.mind(0, 3), 3);
        DUE.is("mind(0, 0)", x.mind(0, 0), 1);
        DUE.is("mind(1, 3)", x.mind(1, 3), 0);
        DUE.refused(x, "mind(4, 0)", x.mind(4, 0), -2, 1);
        DUE.refused(x, "mind(-1, 0)", x.mind(-1, 0), -2, 2);
        DUE.refused(x, "mind(0, 4)", x.mind(0, 4), -2, 3);
        DUE.refused(x, "mind(0, -1)", x.mind(0, -1), -2, 4);
    }

    /** Of each tray the last guest alone wants a sort, which stands at the first place. */
    private static void lastGuests() {
        for (int n = 2; n <= 6; n++) {
            TheOneWithout x = new TheOneWithout();
            x.cups(n);
            x.law(0);
            Due.row(x, 0, 0, 5, 0, 0, 0, 0, 0);
            x.pour(0);
            int last = n - 1;
            x.guest(last, 5, 9);
            Due.row(x, 1, 0, 0, 1, 2, 3, 4, 5);
            String of = " of " + n;
            DUE.promise(30);
            DUE.is("judge" + of, x.judge(1), -1);
            DUE.promise(31);
            DUE.is("MEAN" + of, x.handing(1, 0), 9);
            DUE.is("SWAPS" + of, x.handing(1, 1), 1);
            DUE.is("COST" + of, x.handing(1, 2), 9);
            x.set(1, 0, last);
            x.set(1, last, 0);
            DUE.is("MEAN" + of, x.handing(1, 0), 0);
            DUE.is("SWAPS" + of, x.handing(1, 1), 0);
            DUE.is("COST" + of, x.handing(1, 2), 0);
            DUE.promise(32);
            DUE.is("best(NONE)" + of, x.best(-1), 0);
            DUE.is("the last guest's place" + of, x.best(last), 0);
            for (int guest = 0; guest < last; guest++) {
                DUE.is("the others' places" + of, x.best(guest), guest + 1);
            }
            DUE.promise(33);
            DUE.is("mind" + of, x.mind(last, 0), 0);
            DUE.is("mind" + of, x.mind(last, last), 1);
            DUE.promise(30);
            x.set(1, last, last);
            DUE.is("the last is one ahead" + of, x.judge(1), last);
            x.set(1, last, n);
            DUE.is("the last is no place" + of, x.judge(1), last);
        }
    }

    /** Of each tray what each guest wants stands at the last place alone. */
    private static void lastPlaces() {
        for (int n = 2; n <= 6; n++) {
            TheOneWithout x = new TheOneWithout();
            x.cups(n);
            x.law(0);
            Due.row(x, 0, 0, 1, 1, 1, 1, 1, 1);
            x.set(0, n - 1, 5);
            x.pour(0);
            for (int guest = 0; guest < n; guest++) {
                x.guest(guest, 5, guest == 1 ? 9 : 8);
            }
            Due.row(x, 1, 0, 0, 1, 2, 3, 4, 5);
            String of = " of " + n;
            DUE.promise(31);
            int all = 8 * n + 1;
            DUE.is("MEAN" + of, x.handing(1, 0), n == 2 ? 8 : all - 8);
            DUE.is("COST" + of, x.handing(1, 2), n == 2 ? 8 : all - 8);
            DUE.is("SWAPS" + of, x.handing(1, 1), -1);
            DUE.promise(32);
            DUE.is("best(NONE)" + of, x.best(-1), all - 9);
            DUE.is("who minds most gets the last" + of, x.best(1), n - 1);
            DUE.is("the first gets the first" + of, x.best(0), 0);
            DUE.promise(33);
            for (int place = 0; place < n; place++) {
                DUE.is("mind(0, " + place + ")" + of, x.mind(0, place), place == n - 1 ? 0 : 1);
            }
        }
    }

    /** A guest there is no place for any more counts nowhere. */
    private static void guestsAsManyAsCups() {
        for (int n = 2; n <= 5; n++) {
            TheOneWithout x = new TheOneWithout();
            x.cups(6);
            for (int guest = n; guest < 6; guest++) {
                x.guest(guest, 5, 9);
            }
            DUE.promise(32);
            DUE.is("best of six", x.best(-1), 9 * (6 - n));
            DUE.is("best(5) of six", x.best(5), 5);
            TheOneWithout twin = new TheOneWithout();
            for (TheOneWithout each : new TheOneWithout[] {x, twin}) {
                each.cups(n);
                each.law(2);
                Due.row(each, 0, 0, 0, 1, 2, 3, 4, 5);
                each.pour(0);
                for (int guest = 0; guest < n; guest++) {
                    each.guest(guest, guest, guest == n - 1 ? 2 : 1);
                    each.set(0, guest, n - 1 - guest);
                }
                each.teller(5, 0);
            }
            DUE.promise(31);
            DUE.is("COST of " + n, x.handing(0, 2), n / 2 * 2 + 1);
            DUE.is("SWAPS of " + n, x.handing(0, 1), n / 2);
            DUE.is("MEAN of " + n, x.handing(0, 0), twin.handing(0, 0));
            DUE.promise(34);
            DUE.is("a hander of " + n, x.tells(0), 10 * (n - 1) + 3);
            DUE.promise(32);
            DUE.refused(x, "best(" + n + ")", x.best(n), -2, 1);
            twin.best(n);
            DUE.isLikeTwin("guests of " + n, x, twin, 0);
        }
    }

    private static void noneIsPossible() {
        TheOneWithout x = Due.tray(GUESTS + ";sign 0 3 2");
        x.law(0);
        Due.row(x, 0, 0, 1, 0, 2);
        DUE.promise(31);
        DUE.is("mean", x.handing(0, 0), 0);
        DUE.is("swaps", x.handing(0, 1), 1);
        DUE.is("cost", x.handing(0, 2), 8);
        DUE.promise(32);
        DUE.is("best(NONE)", x.best(-1), 0);
        DUE.is("best(2)", x.best(2), 2);
        DUE.promise(33);
        DUE.is("mind(0, 1)", x.mind(0, 1), 0);
    }
}
