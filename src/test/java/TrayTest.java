/** Promises 1 and 9 to 16: the tray, its cups, sorts, guests, tellers and signs. */
public final class TrayTest {
    private static final Due DUE = new Due();

    public static void main(String[] args) {
        aNewObject();
        cups();
        pour();
        pourRefused();
        law();
        sort();
        guest();
        guestsStayWithCups();
        teller();
        sign();
        signRefused();
        forget();
        DUE.end();
    }

    private static void aNewObject() {
        DUE.promise(1);
        DUE.is("NONE", TheOneWithout.NONE, -1);
        TheOneWithout x = new TheOneWithout();
        int[] due = {5, 1, 0, 0, 1, 0, 1, 0};
        for (int what = 0; what < due.length; what++) {
            DUE.is("status(" + what + ")", x.status(what), due[what]);
        }
        for (int what = 12; what <= 16; what++) {
            DUE.is("status(" + what + ")", x.status(what), 0);
        }
        for (int place = 0; place < 5; place++) {
            DUE.is("stands(" + place + ")", x.stands(place), 0);
            DUE.is("sorts(" + place + ")", x.sorts(place), 1);
            DUE.is("mind(" + place + ", 0)", x.mind(place, 0), 0);
        }
        for (int s = 0; s < 8; s++) {
            DUE.is("holds(" + s + ")", x.holds(s), -1);
        }
        for (int sort = 0; sort < 6; sort++) {
            for (int what = 0; what < 3; what++) {
                DUE.is("sort(" + sort + ", " + what + ", 9)", x.sort(sort, what, 9), 0);
            }
        }
        DUE.is("wipe()", x.wipe(), 0);
        DUE.is("back()", x.back(), -5);
    }

    private static void cups() {
        DUE.promise(9);
        TheOneWithout x = Due.tray("pour 1 2 3 4 5; sign 0 3 1");
        DUE.is("cups(6)", x.cups(6), 5);
        DUE.is("cups", x.status(0), 6);
        DUE.is("signs", x.status(3), 0);
        DUE.is("unlike sorts", x.status(4), 1);
        DUE.is("worlds(0)", x.worlds(0), 1);
        for (int place = 0; place < 6; place++) {
            DUE.is("stands(" + place + ")", x.stands(place), 0);
            DUE.is("sorts(" + place + ")", x.sorts(place), 1);
        }
        DUE.is("cups(2)", x.cups(2), 6);
        DUE.is("stands(2)", x.stands(2), -2);
        DUE.refused(x, "cups(1)", x.cups(1), -2, 2);
        DUE.refused(x, "cups(7)", x.cups(7), -2, 3);
        DUE.refused(x, "cups(-1)", x.cups(-1), -2, 4);
        DUE.is("cups(2)", x.cups(2), 2);
        x = Due.tray("cups 2; pour 3 4");
        DUE.is("as many as there were", x.cups(2), 2);
        DUE.is("poured is 0 all the same", x.sorts(0), 1);
    }

    private static void pour() {
        DUE.promise(10);
        TheOneWithout x = new TheOneWithout();
        Due.row(x, 0, 1, 0, 1, 0, 1, 1, 77);
        DUE.is("pour(0) turned", x.pour(0), 5);
        int[] poured = {0, 1, 0, 1, 1};
        for (int place = 0; place < 5; place++) {
            DUE.is("stands(" + place + ")", x.stands(place), poured[place]);
        }
        x.law(2);
        x.look(0, 3);
        x.cups(4);
        x.look(0, 3);
        DUE.is("pour(0) mixed", x.pour(0), 6);
        DUE.is("signs", x.status(3), 0);
        x.law(1);
        DUE.is("pour(0) that comes back by half a turn", x.pour(0), 2);
        x.law(0);
        DUE.is("pour(0) fixed", x.pour(0), 1);
        x.row(1, 4, 4);
        x.set(1, 2, 55);
        x.law(2);
        DUE.is("pour of booleans", x.pour(1), 4);
        DUE.is("stands(2)", x.stands(2), 1);
        x.cups(6);
        Due.row(x, 2, 3, 5, 4, 3, 2, 1, 0);
        DUE.is("pour of six", x.pour(2), 720);
    }

    private static void pourRefused() {
        DUE.promise(10);
        TheOneWithout x = Due.tray("cups 3; pour 1 2 3; sign 0 3 1");
        x.teller(0, 0);
        x.show(0, 0);
        Due.row(x, 2, 2, 0, 0);
        Due.row(x, 3, 2, 0, 0, 6);
        Due.row(x, 4, 2, -1, 0, 0);
        Due.row(x, 5, 3, 0, 1L << 32, 0);
        DUE.refused(x, "pour(8)", x.pour(8), -2, 1);
        DUE.refused(x, "pour(-1)", x.pour(-1), -2, 2);
        DUE.refused(x, "pour of a teller", x.pour(0), -3, 1);
        DUE.refused(x, "pour of nothing", x.pour(1), -4, 1);
        DUE.refused(x, "pour of too few", x.pour(2), -2, 3);
        DUE.refused(x, "pour of 6", x.pour(3), -2, 4);
        DUE.refused(x, "pour of -1", x.pour(4), -2, 5);
        DUE.refused(x, "pour of a long", x.pour(5), -2, 6);
        DUE.is("nothing changes", x.stands(2), 3);
        DUE.is("nothing changes", x.status(3), 1);
    }

    private static void law() {
        DUE.promise(11);
        TheOneWithout x = Due.tray("cups 4; pour 0 0 1 2");
        DUE.is("turned", x.worlds(0), 4);
        DUE.is("law(2)", x.law(2), 1);
        DUE.is("mixed", x.worlds(0), 12);
        DUE.is("law(0)", x.law(0), 2);
        DUE.is("fixed", x.worlds(0), 1);
        DUE.is("law(1)", x.law(1), 0);
        DUE.refused(x, "law(3)", x.law(3), -2, 1);
        DUE.refused(x, "law(-1)", x.law(-1), -2, 2);
        DUE.is("status(1)", x.status(1), 1);
        x.look(0, 3);
        x.law(2);
        DUE.is("signs stay", x.status(3), 1);
        DUE.is("truth stays", x.stands(3), 2);
    }

    private static void sort() {
        DUE.promise(12);
        TheOneWithout x = new TheOneWithout();
        for (int sort = 0; sort < 6; sort++) {
            for (int what = 0; what < 3; what++) {
                DUE.is("sort to", x.sort(sort, what, sort + what), 0);
            }
        }
        for (int sort = 0; sort < 6; sort++) {
            for (int what = 0; what < 3; what++) {
                DUE.is("what it was", x.sort(sort, what, 9), sort + what);
            }
        }
        DUE.refused(x, "sort(6, 0, 0)", x.sort(6, 0, 0), -2, 1);
        DUE.refused(x, "sort(-1, 0, 0)", x.sort(-1, 0, 0), -2, 2);
        DUE.refused(x, "sort(0, 3, 0)", x.sort(0, 3, 0), -2, 3);
        DUE.refused(x, "sort(0, -1, 0)", x.sort(0, -1, 0), -2, 4);
        DUE.refused(x, "sort(0, 0, 10)", x.sort(0, 0, 10), -2, 5);
        DUE.refused(x, "sort(0, 0, -1)", x.sort(0, 0, -1), -2, 6);
        DUE.is("nothing changed", x.sort(0, 0, 9), 9);
        x = Due.tray("cups 2; pour 0 1; law 2; sort 0 1 0 0; sign 0 0 1");
        DUE.is("one is possible", x.worlds(1), 1);
        x.sort(1, 0, 1);
        DUE.is("both are, when shades are alike", x.worlds(1), 2);
        x.sort(0, 0, 2);
        DUE.is("the other", x.world(0, 0), 1);
    }

    private static void guest() {
        DUE.promise(13);
        TheOneWithout x = Due.tray("cups 2; pour 0 1; law 2");
        DUE.is("mind(0, 0) wants none", x.mind(0, 0), 0);
        DUE.is("guest(0, 1, 9)", x.guest(0, 1, 9), 1);
        DUE.is("best(NONE)", x.best(-1), 9);
        DUE.is("mind(0, 0)", x.mind(0, 0), 1);
        DUE.is("guest(0, NONE, 9)", x.guest(0, -1, 9), 1);
        DUE.is("best(NONE)", x.best(-1), 0);
        DUE.is("guest(1, 5, 0)", x.guest(1, 5, 0), 1);
        DUE.is("mind(1, 0)", x.mind(1, 0), 2);
        DUE.is("best(NONE)", x.best(-1), 0);
        DUE.refused(x, "guest(2, 0, 0)", x.guest(2, 0, 0), -2, 1);
        DUE.refused(x, "guest(-1, 0, 0)", x.guest(-1, 0, 0), -2, 2);
        DUE.refused(x, "guest(0, 6, 0)", x.guest(0, 6, 0), -2, 3);
        DUE.refused(x, "guest(0, -2, 0)", x.guest(0, -2, 0), -2, 4);
        DUE.refused(x, "guest(0, 0, 10)", x.guest(0, 0, 10), -2, 5);
        DUE.refused(x, "guest(0, 0, -1)", x.guest(0, 0, -1), -2, 6);
        DUE.is("nothing changed", x.mind(0, 1), 0);
    }

    private static void guestsStayWithCups() {
        DUE.promise(13);
        TheOneWithout x = new TheOneWithout();
        x.guest(4, 1, 7);
        x.cups(2);
        DUE.is("no such guest", x.mind(4, 0), -2);
        x.cups(5);
        DUE.is("the guest wants the same", x.mind(4, 0), 1);
        DUE.is("and minds as much", x.best(-1), 7);
    }

    private static void teller() {
        DUE.promise(14);
        TheOneWithout x = new TheOneWithout();
        DUE.refused(x, "teller(6, 0)", x.teller(6, 0), -2, 1);
        DUE.refused(x, "teller(-1, 0)", x.teller(-1, 0), -2, 2);
        DUE.refused(x, "teller(0, 10)", x.teller(0, 10), -2, 3);
        DUE.refused(x, "teller(0, -1)", x.teller(0, -1), -2, 4);
        DUE.is("teller(5, 9)", x.teller(5, 9), 0);
        DUE.is("teller(0, 0)", x.teller(0, 0), 1);
        DUE.is("teller(0, 1)", x.teller(0, 1), 2);
        DUE.is("teller(0, 2)", x.teller(0, 2), 3);
        DUE.refused(x, "BAD is ahead of FULL", x.teller(0, 10), -2, 5);
        DUE.refused(x, "the fifth", x.teller(0, 3), -6, 1);
        DUE.is("status(2)", x.status(2), 4);
        x.show(0, 0);
        DUE.is("says(0, 0)", x.says(0, 0), 9);
        x.show(0, 3);
        DUE.is("says(0, 0)", x.says(0, 0), 2);
    }

    private static void sign() {
        DUE.promise(15);
        TheOneWithout x = Due.tray("cups 3; pour 0 1 2; law 2; sort 1 4 5 6; sort 2 4 0 0");
        DUE.is("SHADE 4 at 0", x.sign(0, 0, 4), 4);
        DUE.is("again", x.sign(0, 0, 4), 4);
        DUE.is("status(3)", x.status(3), 1);
        DUE.is("WEIGHT 5 at 0", x.sign(0, 1, 5), 2);
        DUE.is("HEAT 6 at 0", x.sign(0, 2, 6), 2);
        DUE.is("SORT 2 at 1", x.sign(1, 3, 2), 1);
        DUE.is("status(3)", x.status(3), 4);
        DUE.is("world(0, 0)", x.world(0, 0), 1);
        DUE.is("world(0, 1)", x.world(0, 1), 2);
        DUE.is("world(0, 2)", x.world(0, 2), 0);
    }

    private static void signRefused() {
        DUE.promise(15);
        TheOneWithout x = Due.tray("cups 3; pour 0 1 2; law 2");
        DUE.refused(x, "sign(3, 0, 0)", x.sign(3, 0, 0), -2, 1);
        DUE.refused(x, "sign(-1, 0, 0)", x.sign(-1, 0, 0), -2, 2);
        DUE.refused(x, "sign(0, 4, 0)", x.sign(0, 4, 0), -2, 3);
        DUE.refused(x, "sign(0, -1, 0)", x.sign(0, -1, 0), -2, 4);
        DUE.refused(x, "sign(0, 3, 6)", x.sign(0, 3, 6), -2, 5);
        DUE.refused(x, "sign(0, 3, -1)", x.sign(0, 3, -1), -2, 6);
        DUE.refused(x, "sign(0, 2, 10)", x.sign(0, 2, 10), -2, 7);
        DUE.refused(x, "sign(0, 0, -1)", x.sign(0, 0, -1), -2, 8);
        DUE.refused(x, "no world has it", x.sign(0, 1, 9), -5, 1);
        DUE.refused(x, "no sort 3 was poured", x.sign(0, 3, 3), -5, 2);
        DUE.is("sign(0, 3, 1)", x.sign(0, 3, 1), 2);
        DUE.refused(x, "not there too", x.sign(1, 3, 1), -5, 3);
        DUE.refused(x, "known with another number", x.sign(0, 3, 2), -5, 4);
        DUE.is("status(3)", x.status(3), 1);
        DUE.is("the number stays", x.world(0, 0), 1);
        x.law(0);
        DUE.refused(x, "known, but none has it now", x.sign(0, 3, 1), -5, 5);
        DUE.is("status(3)", x.status(3), 1);
    }

    private static void forget() {
        DUE.promise(16);
        TheOneWithout x = Due.tray("cups 3; pour 0 1 2; law 2; sign 0 3 1; sign 1 3 0");
        DUE.is("worlds(1)", x.worlds(1), 1);
        DUE.is("forget()", x.forget(), 2);
        DUE.is("worlds(1)", x.worlds(1), 6);
        DUE.is("status(3)", x.status(3), 0);
        DUE.is("forget()", x.forget(), 0);
    }
}
