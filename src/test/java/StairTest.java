/** Promises 17 to 19: the tape, and stairs read from it. */
public final class StairTest {
    private static final Due DUE = new Due();

    public static void main(String[] args) {
        feed();
        wipe();
        everyStatement();
        readInOrder();
        tokens();
        faults();
        faultsOfSigns();
        allOrNothing();
        whatStairsKeep();
        fullTape();
        DUE.end();
    }

    private static void feed() {
        DUE.promise(17);
        TheOneWithout x = new TheOneWithout();
        DUE.is("feed(0)", x.feed(0), 1);
        DUE.is("feed(255)", x.feed(255), 2);
        DUE.refused(x, "feed(256)", x.feed(256), -2, 1);
        DUE.refused(x, "feed(-1)", x.feed(-1), -2, 2);
        DUE.is("status(5)", x.status(5), 2);
        for (int i = 3; i <= 250; i++) {
            DUE.is("feed(32)", x.feed(32), i);
        }
        DUE.refused(x, "BAD is ahead of FULL", x.feed(256), -2, 3);
        DUE.refused(x, "the 251st", x.feed(32), -6, 1);
        DUE.is("status(5)", x.status(5), 250);
    }

    private static void wipe() {
        DUE.promise(18);
        TheOneWithout x = new TheOneWithout();
        Due.feed(x, "law 2");
        DUE.is("wipe()", x.wipe(), 5);
        DUE.is("wipe()", x.wipe(), 0);
        DUE.is("feed(108)", x.feed('l'), 1);
        Due.feed(x, "aw 0");
        DUE.is("stair()", x.stair(), 1);
        DUE.is("status(1)", x.status(1), 0);
    }

    private static void everyStatement() {
        DUE.promise(19);
        TheOneWithout x = new TheOneWithout();
        DUE.is("cups", Due.stair(x, "cups 3"), 1);
        DUE.is("the tape is empty", x.status(5), 0);
        DUE.is("status(0)", x.status(0), 3);
        DUE.is("pour", Due.stair(x, "pour 5 0 5"), 1);
        DUE.is("stands(2)", x.stands(2), 5);
        DUE.is("sorts(1)", x.sorts(1), 33);
        DUE.is("law", Due.stair(x, "law 0"), 1);
        DUE.is("status(1)", x.status(1), 0);
        DUE.is("sort", Due.stair(x, "sort 5 1 2 3"), 1);
        DUE.is("SHADE", x.sort(5, 0, 1), 1);
        DUE.is("WEIGHT", x.sort(5, 1, 2), 2);
        DUE.is("HEAT", x.sort(5, 2, 3), 3);
        DUE.is("guest", Due.stair(x, "guest 2 4 9"), 1);
        DUE.is("mind(2, 0)", x.mind(2, 0), 1);
        DUE.is("best(NONE)", x.best(-1), 9);
        DUE.is("sign", Due.stair(x, "sign 0 2 3"), 1);
        DUE.is("status(3)", x.status(3), 1);
        DUE.is("look(0, 2) is known", x.look(0, 2), 3);
        DUE.is("status(3)", x.status(3), 1);
        DUE.is("the same sign again", Due.stair(x, "sign 0 2 3;sign 0 2 3"), 2);
        DUE.is("status(3)", x.status(3), 1);
        DUE.is("pour ends signs", Due.stair(x, "pour 0 0 0"), 1);
        DUE.is("status(3)", x.status(3), 0);
        Due.stair(x, "sign 0 2 0");
        DUE.is("cups ends signs", Due.stair(x, "cups 3"), 1);
        DUE.is("status(3)", x.status(3), 0);
        for (int what = 12; what <= 16; what++) {
            DUE.is("nothing was refused", x.status(what), 0);
        }
    }

    /** What a statement may say is as the ones ahead left it. */
    private static void readInOrder() {
        DUE.promise(19);
        TheOneWithout x = new TheOneWithout();
        DUE.is("two cups, two sorts", Due.stair(x, "cups 2;pour 0 1;guest 1 0 0;sign 1 3 1"), 4);
        DUE.is("worlds(1)", x.worlds(1), 1);
        DUE.is("a guest there is no more", Due.stair(x, "cups 4;cups 2;guest 2 0 0"), -20 - 20);
        DUE.is("as many sorts as cups", Due.stair(x, "pour 1 1;cups 3;pour 1 1"), -20 - 24);
        DUE.is("by the law ahead", Due.stair(x, "cups 3;pour 1 2 2;law 0;sign 1 3 1"), -20 - 33);
        DUE.is("by the law ahead", Due.stair(x, "cups 3;pour 1 2 2;law 1;sign 1 3 1"), 4);
        DUE.is("by the sorts ahead", Due.stair(x, "sort 1 7 0 0;sign 1 0 7;law 2"), 3);
    }

    private static void tokens() {
        DUE.promise(19);
        TheOneWithout x = new TheOneWithout();
        DUE.is("blanks anywhere", Due.stair(x, "  cups   2  ;  law 1 "), 2);
        DUE.is("no blanks", Due.stair(x, "cups2;law1;pour 0 01"), 3);
        DUE.is("stands(1)", x.stands(1), 1);
        DUE.is("two digits", Due.stair(x, "law 02"), 1);
        DUE.is("status(1)", x.status(1), 2);
        DUE.is("words as long as can be", Due.stair(x, "cupss 2"), -20);
        DUE.is("z is a letter", Due.stair(x, "lawz 1"), -20);
        DUE.is("another first letter", Due.stair(x, "paw 1"), -20);
        DUE.is("another last letter", Due.stair(x, "lax 1"), -20);
        DUE.is("words of blanks", Due.stair(x, "cu ps 2"), -20);
        DUE.is("shorter", Due.stair(x, "law 1;cup 2"), -26);
        DUE.is("numbers as long as can be", Due.stair(x, "pour 00"), -27);
        DUE.is("three digits", Due.stair(x, "law 001"), -24);
        DUE.is("a capital", Due.stair(x, "law 1;Law 1"), -26);
        DUE.is("a sign of a number", Due.stair(x, "law -1"), -24);
        DUE.is("a line's end is no blank", Due.stair(x, "law 1\n"), -25);
        DUE.is("a byte above", Due.stair(x, "law \u00ff"), -24);
        DUE.is("a byte 0", Due.stair(x, "\0law 1"), -20);
        DUE.is("{ behind z", Due.stair(x, "law{1"), -23);
        DUE.is("` ahead of a", Due.stair(x, "law`1"), -23);
        DUE.is("/ ahead of 0", Due.stair(x, "law /"), -24);
        DUE.is(": behind 9", Due.stair(x, "law :"), -24);
    }

    private static void faults() {
        DUE.promise(19);
        TheOneWithout x = new TheOneWithout();
        DUE.is("empty", x.stair(), -20);
        DUE.is("refused, too", x.status(12), 1);
        DUE.is("blanks", Due.stair(x, "   "), -23);
        DUE.is("no number", Due.stair(x, "law"), -23);
        DUE.is("no number behind blanks", Due.stair(x, "law  "), -25);
        DUE.is("an end behind ;", Due.stair(x, "law 1;"), -26);
        DUE.is("; behind ;", Due.stair(x, "law 1;;law 1"), -26);
        DUE.is("; first", Due.stair(x, ";law 1"), -20);
        DUE.is("a number first", Due.stair(x, " 1"), -21);
        DUE.is("a number too many", Due.stair(x, "law 1 1"), -26);
        DUE.is("a word too many", Due.stair(x, "law 1law 1"), -25);
        DUE.is("a word for a number", Due.stair(x, "law law"), -24);
        DUE.is("; for a number", Due.stair(x, "law ;"), -24);
        DUE.is("cups 1", Due.stair(x, "cups 1"), -25);
        DUE.is("cups 7", Due.stair(x, "cups 7"), -25);
        DUE.is("pour of too few", Due.stair(x, "pour 1 1 1 1;law 1"), -32);
        DUE.is("pour of too many", Due.stair(x, "pour 1 1 1 1 1 1"), -35);
        DUE.is("pour of 6", Due.stair(x, "pour 6"), -25);
        DUE.is("law 3", Due.stair(x, "law 3"), -24);
        DUE.is("sort 6", Due.stair(x, "sort 6 0 0 0"), -25);
        DUE.is("shade 10", Due.stair(x, "sort 5 10 0 0"), -27);
        DUE.is("weight 10", Due.stair(x, "sort 5 0 10 0"), -29);
        DUE.is("heat 10", Due.stair(x, "sort 5 0 0 10"), -31);
        DUE.is("guest 5", Due.stair(x, "guest 5 0 0"), -26);
        DUE.is("wants 6", Due.stair(x, "guest 4 6 0"), -28);
        DUE.is("minds 10", Due.stair(x, "guest 4 5 10"), -30);
        DUE.is("each refused", x.status(12), 25);
    }

    private static void faultsOfSigns() {
        DUE.promise(19);
        TheOneWithout x = Due.tray("cups 3;pour 0 1 2;law 2;sort 1 9 0 0");
        DUE.is("place 3", Due.stair(x, "sign 3 0 0"), -25);
        DUE.is("kind 4", Due.stair(x, "sign 2 4 0"), -27);
        DUE.is("shade 10", Due.stair(x, "sign 2 0 10"), -29);
        DUE.is("sort 6", Due.stair(x, "sign 2 3 6"), -29);
        DUE.is("no world has it", Due.stair(x, "sign 2 0 5"), -29);
        DUE.is("no world has both", Due.stair(x, "sign 2 0 9;sign 1 0 9"), -40);
        DUE.is("ahead of what is behind", Due.stair(x, "sign 2 0 5 5"), -29);
        DUE.is("no sign is known", x.status(3), 0);
        DUE.is("an end", Due.stair(x, "sign 2 0"), -28);
        DUE.is("one that some world has", Due.stair(x, "sign 2 0 9"), 1);
        DUE.is("worlds(1)", x.worlds(1), 2);
        DUE.is("known with another number", Due.stair(x, "sign 2 0 9;sign 2 0 0"), -40);
        x.sort(1, 0, 8);
        DUE.is("known with the number it had", Due.stair(x, "sign 2 0 9"), -29);
        DUE.is("status(3)", x.status(3), 1);
    }

    private static void allOrNothing() {
        DUE.promise(19);
        TheOneWithout x = Due.tray("cups 3;pour 0 1 2;sort 1 9 8 7;guest 0 1 9;sign 0 3 2");
        x.teller(0, 3);
        x.row(0, 0, 3);
        DUE.is("a fault at the end", Due.stair(x, "law 2;sort 1 1 1 1;guest 0 2 3;sign 1 3 0;"
                + "pour 1 1 1;cups 5;pour 5 5 5 5 5;?"), -20 - 75);
        DUE.is("cups", x.status(0), 3);
        DUE.is("law", x.status(1), 1);
        DUE.is("tellers", x.status(2), 1);
        DUE.is("signs", x.status(3), 1);
        DUE.is("unlike sorts", x.status(4), 3);
        DUE.is("the tape", x.status(5), 0);
        DUE.is("shelves", x.status(7), 1);
        DUE.is("truth", x.stands(2), 2);
        DUE.is("worlds(0)", x.worlds(0), 3);
        DUE.is("worlds(1)", x.worlds(1), 1);
        DUE.is("world(0, 0)", x.world(0, 0), 2);
        DUE.is("mind(0, 2)", x.mind(0, 2), 0);
        DUE.is("mind(0, 1)", x.mind(0, 1), 1);
        x.row(0, 0, 3);
        x.set(0, 1, 1);
        x.set(0, 2, 2);
        DUE.is("all that guest 0 minds", x.handing(0, 2), 9);
        DUE.is("SHADE", x.sort(1, 0, 9), 9);
        DUE.is("WEIGHT", x.sort(1, 1, 8), 8);
        DUE.is("HEAT", x.sort(1, 2, 7), 7);
        DUE.is("a fault within a statement", Due.stair(x, "sort 1 1 1 x"), -31);
        DUE.is("SHADE", x.sort(1, 0, 9), 9);
    }

    private static void whatStairsKeep() {
        DUE.promise(19);
        TheOneWithout x = Due.tray("cups 2;pour 0 1;law 2");
        x.seed(77);
        x.stairs();
        int seed = x.status(6);
        x.image();
        Due.stair(x, "cups 3;pour 0 1 2");
        DUE.is("the seed stays", x.status(6), seed);
        DUE.is("an image stays", x.back(), 1);
        DUE.is("status(0)", x.status(0), 2);
    }

    private static void fullTape() {
        DUE.promise(19);
        StringBuilder b = new StringBuilder("law 2");
        while (b.length() < 245) {
            b.append(";law 0");
        }
        int statements = 1 + (b.length() - 5) / 6;
        while (b.length() < 250) {
            b.append(' ');
        }
        TheOneWithout x = new TheOneWithout();
        Due.feed(x, b.toString());
        DUE.is("status(5)", x.status(5), 250);
        DUE.is("a full tape", x.stair(), statements);
        DUE.is("a tape of blanks", Due.stair(x, " ".repeat(250)), -270);
        x = new TheOneWithout();
        DUE.is("a tape of one word", Due.stair(x, "z".repeat(250)), -20);
        DUE.is("a number of 247 digits", Due.stair(x, "law" + "0".repeat(247)), -23);
    }
}
