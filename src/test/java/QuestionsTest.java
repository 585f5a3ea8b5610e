/** Promises 26 to 29: the next sign, the fewest, places that tell, marks. */
public final class QuestionsTest {
    private static final Due DUE = new Due();

    public static void main(String[] args) {
        next();
        nextRefused();
        fewest();
        fewestAhead();
        fewestRefused();
        apart();
        marks();
        onePlaceTells();
        oneKindTells();
        apartOfTwelve();
        oneOddTurned();
        alikeByEachKind();
        askedAgain();
        DUE.end();
    }

    private static void next() {
        DUE.promise(26);
        TheOneWithout x = Due.tray("cups 3;law 2;pour 0 1 2;sort 1 4 0 1;sort 2 4 0 2");
        DUE.is("SHADE leaves 4 at each place, so the first", x.next(1), 0);
        DUE.is("WEIGHT leaves all", x.next(2), 1);
        DUE.is("HEAT leaves 2", x.next(4), 2);
        DUE.is("SHADE or HEAT", x.next(5), 2);
        DUE.is("HEAT or SORT", x.next(12), 2);
        DUE.is("SORT", x.next(8), 3);
        DUE.is("any", x.next(15), 2);
        Due.stair(x, "sign 0 3 0");
        DUE.is("place 0 tells no more", x.next(8), 13);
        DUE.is("HEAT at 1", x.next(15), 12);
        DUE.is("SHADE tells no more: the first", x.next(1), 0);
        DUE.is("SHADE or WEIGHT, none tells", x.next(3), 0);
        DUE.is("WEIGHT alone", x.next(2), 1);
        x = Due.tray("cups 4;law 1;pour 0 0 0 1;sign 0 3 0");
        DUE.is("of three ways", x.next(8), 13);
        DUE.is("one world", new TheOneWithout().next(8), 3);
        DUE.is("all of 720", Due.tray("cups 6;law 2;pour 0 1 2 3 4 5").next(1), 0);
        x = Due.tray("cups 4;law 2;pour 0 0 1 2;sort 2 1 0 0;sign 1 3 0");
        DUE.is("the least worst, not the first", x.next(1), 0);
        x = Due.tray("cups 4;law 2;pour 0 0 1 2;sort 2 1 0 0;sign 0 3 0");
        DUE.is("the least worst stands behind", x.next(1), 10);
        DUE.is("the least worst stands behind", x.next(8), 13);
    }

    private static void nextRefused() {
        DUE.promise(26);
        TheOneWithout x = Due.tray("cups 3;law 2;pour 0 1 2;sign 0 3 1");
        DUE.refused(x, "next(0)", x.next(0), -2, 1);
        DUE.refused(x, "next(16)", x.next(16), -2, 2);
        DUE.refused(x, "next(-1)", x.next(-1), -2, 3);
        x.law(0);
        DUE.refused(x, "none is possible", x.next(1), -5, 1);
        DUE.refused(x, "BAD is ahead of STUCK", x.next(0), -2, 4);
    }

    private static void fewest() {
        DUE.promise(27);
        DUE.is("it is known", new TheOneWithout().fewest(1), 0);
        TheOneWithout x = Due.tray("cups 4;law 2;pour 0 1 2 3;sort 1 0 1 0;sort 2 1 0 0;"
                + "sort 3 1 1 5");
        DUE.is("24 worlds by sips", x.fewest(8), 3);
        DUE.is("by all", x.fewest(15), 3);
        DUE.is("by one shade", x.fewest(1), -1);
        DUE.is("by shade and weight", x.fewest(3), -1);
        Due.stair(x, "sign 0 3 0");
        DUE.is("6 worlds by sips", x.fewest(8), 2);
        DUE.is("by shade and weight", x.fewest(3), 3);
        DUE.is("HEAT tells but one", x.fewest(4), -1);
        Due.stair(x, "sign 1 3 1");
        DUE.is("two by one sip", x.fewest(8), 1);
        DUE.is("two by heat", x.fewest(4), 1);
        DUE.is("alike in shade", x.fewest(1), -1);
        Due.stair(x, "sign 2 3 3");
        DUE.is("it is known", x.fewest(1), 0);
        DUE.is("five turned, one odd", Due.tray("law 1;pour 0 0 0 0 1").fewest(8), 4);
        DUE.is("six turned, one odd", Due.tray("cups 6;law 1;pour 0 0 0 0 0 1").fewest(8), -1);
    }

    /** Two looks are enough only if the second hangs on what the first has shown. */
    private static void fewestAhead() {
        DUE.promise(27);
        TheOneWithout x = Due.tray("cups 4;law 1;pour 0 1 2 3;sort 2 1 0 0;sort 3 1 0 0");
        DUE.is("by shades", x.fewest(1), 2);
        x = Due.tray("cups 6;law 1;pour 0 1 2 3 4 5;sort 1 0 0 1;sort 2 0 1 0;sort 3 1 1 1;"
                + "sort 4 1 0 1;sort 5 1 1 0");
        DUE.is("by sips", x.fewest(8), 1);
        DUE.is("by shades", x.fewest(1), 3);
    }

    private static void fewestRefused() {
        DUE.promise(27);
        TheOneWithout x = Due.tray("cups 3;law 2;pour 0 1 2;sign 0 3 1");
        DUE.refused(x, "fewest(0)", x.fewest(0), -2, 1);
        DUE.refused(x, "fewest(16)", x.fewest(16), -2, 2);
        DUE.refused(x, "fewest(-1)", x.fewest(-1), -2, 3);
        DUE.is("NONE", x.fewest(1), -1);
        DUE.is("NONE isn't refused", x.status(12) + x.status(15), 3);
        x.law(0);
        DUE.refused(x, "none is possible", x.fewest(8), -5, 1);
        x = Due.tray("cups 4;law 2;pour 0 1 2 3");
        DUE.is("24", x.fewest(8), 3);
        x = Due.tray("cups 5;law 2;pour 0 0 0 1 2");
        DUE.is("20", x.fewest(8), 4);
        x = Due.tray("cups 5;law 2;pour 0 0 1 1 2");
        DUE.refused(x, "30", x.fewest(8), -5, 1);
        DUE.refused(x, "BAD is ahead of STUCK", x.fewest(0), -2, 1);
    }

    private static void apart() {
        DUE.promise(28);
        DUE.is("one world", new TheOneWithout().apart(), 0);
        TheOneWithout x = Due.tray("cups 4;law 2;pour 0 1 2 3");
        DUE.is("three of four", x.apart(), 7);
        Due.stair(x, "sign 1 3 2");
        DUE.is("two, and not the known", x.apart(), 5);
        DUE.is("turned, all unlike", Due.tray("cups 6;law 1;pour 0 1 2 3 4 5").apart(), 1);
        DUE.is("turned, one odd", Due.tray("cups 6;law 1;pour 0 0 0 0 0 1").apart(), 31);
        DUE.is("turned, two and two", Due.tray("cups 4;law 1;pour 0 0 1 1").apart(), 3);
        // left are 1200, 0210 and 0120: places 0 and 1 together tell them, and so does 2 alone
        x = Due.tray("cups 4;law 2;pour 0 0 1 2;sort 2 1 0 0;sort 0 0 1 0;sign 3 3 0;"
                + "sign 0 0 0;sign 1 1 0");
        DUE.is("worlds(1)", x.worlds(1), 3);
        DUE.is("fewest, not least bits", x.apart(), 4);
        x = Due.tray("cups 3;law 2;pour 0 1 2;sign 0 3 1");
        x.law(0);
        DUE.refused(x, "none is possible", x.apart(), -5, 1);
    }

    /** 0 or 1 stands at one place, 1 or 2 at another: what stands at the third alone tells all. */
    private static void onePlaceTells() {
        int[][] places = {{0, 1, 2}, {0, 2, 1}, {1, 0, 2}, {1, 2, 0}, {2, 0, 1}, {2, 1, 0}};
        for (int[] p : places) {
            TheOneWithout x = Due.tray("cups 3;law 2;pour 0 1 2;sort 2 1 0 0;sort 0 0 1 0;sign "
                    + p[1] + " 0 0;sign " + p[2] + " 1 0");
            DUE.promise(20);
            DUE.is("worlds(1)", x.worlds(1), 3);
            DUE.promise(27);
            DUE.is("fewest(8) by place " + p[0], x.fewest(8), 1);
            DUE.is("fewest(15) by place " + p[0], x.fewest(15), 1);
            DUE.is("fewest(7) by looks", x.fewest(7), 2);
            DUE.is("fewest(4) by HEAT", x.fewest(4), -1);
            DUE.promise(28);
            DUE.is("apart() by place " + p[0], x.apart(), 1 << p[0]);
            DUE.promise(26);
            DUE.is("next(8) at place " + p[0], x.next(8), 10 * p[0] + 3);
            x.sort(1, 2, 2);
            x.sort(2, 2, 9);
            DUE.is("next(4) at place " + p[0], x.next(4), 10 * p[0] + 2);
            DUE.promise(27);
            DUE.is("fewest(4) by HEAT at place " + p[0], x.fewest(4), 1);
            DUE.is("fewest(3) by SHADE and WEIGHT", x.fewest(3), 2);
        }
    }

    /** Two sorts at three places, of which the first or the last ones are known. */
    private static void oneKindTells() {
        for (int place = 0; place < 3; place++) {
            for (int kind = 0; kind < 3; kind++) {
                TheOneWithout x = Due.tray("cups 3;law 2;pour 4 5 3;sign " + place + " 3 3");
                x.sort(5, kind, 9);
                int first = place == 0 ? 10 : 0;
                int bits = 1 << kind;
                DUE.promise(26);
                DUE.is("next of this kind", x.next(bits), first + kind);
                DUE.is("next of all", x.next(15), first + kind);
                DUE.is("next of the other kinds", x.next(15 - bits), first + 3);
                DUE.promise(27);
                DUE.is("fewest of this kind", x.fewest(bits), 1);
                DUE.is("fewest of all", x.fewest(15), 1);
                DUE.is("fewest of the other looks", x.fewest(7 - bits), -1);
                DUE.promise(28);
                DUE.is("apart", x.apart(), place == 0 ? 2 : 1);
            }
        }
    }

    /** Seven looks leave 12 of 720; no two places tell them, and of three these are the least. */
    private static void apartOfTwelve() {
        DUE.promise(28);
        TheOneWithout x = Due.tray("cups 6;law 2;pour 0 1 2 3 4 5;sort 0 1 0 0;sort 1 0 1 1;"
                + "sort 2 1 1 0;sort 3 0 1 0;sort 4 0 0 1;sort 5 0 0 0;sign 3 2 0;sign 1 1 0;"
                + "sign 4 0 0;sign 5 0 0;sign 3 1 1;sign 2 1 0;sign 0 0 1");
        DUE.is("worlds(1)", x.worlds(1), 12);
        DUE.is("apart", x.apart(), 22);
    }

    /** One of a sort among others of one sort, turned: each sip tells of one place alone. */
    private static void oneOddTurned() {
        for (int odd = 0; odd < 6; odd++) {
            for (int other = 0; other < 6; other++) {
                if (odd == other) {
                    continue;
                }
                String text = "law 1;pour " + other + " " + other + " " + odd + " " + other + " "
                        + other;
                TheOneWithout x = Due.tray(text);
                DUE.promise(27);
                DUE.is("fewest(8) of five", x.fewest(8), 4);
                DUE.is("fewest(7): never", x.fewest(7), -1);
                DUE.promise(28);
                DUE.is("apart() of five", x.apart(), 15);
                DUE.promise(26);
                DUE.is("next(8): the first of all alike", x.next(8), 3);
                x.sign(0, 3, other);
                DUE.promise(27);
                DUE.is("fewest(8) of four", x.fewest(8), 3);
                DUE.promise(28);
                DUE.is("apart() of four", x.apart(), 14);
                DUE.promise(26);
                DUE.is("next(8): place 0 is known", x.next(8), 13);
                x.sort(odd, 1, 9);
                DUE.is("next(15): WEIGHT tells as much", x.next(15), 11);
                DUE.promise(27);
                DUE.is("fewest(2): WEIGHT tells as much", x.fewest(2), 3);
                DUE.is("fewest(5): never", x.fewest(5), -1);
                x.sign(3, 3, odd);
                DUE.is("fewest(1): it is known", x.fewest(1), 0);
                DUE.promise(28);
                DUE.is("apart(): it is known", x.apart(), 0);
            }
        }
    }

    /** Of three sorts two are alike by a kind; the numbers are the least and the greatest. */
    private static void alikeByEachKind() {
        for (int kind = 0; kind < 3; kind++) {
            for (int unlike = 3; unlike < 6; unlike++) {
                TheOneWithout x = Due.tray("cups 3;law 2;pour 3 4 5");
                x.sort(unlike, kind, 9);
                DUE.promise(29);
                DUE.is("MARKS by this kind", x.marks(1 << kind), 2);
                DUE.is("MARKS by the other looks", x.marks(7 - (1 << kind)), 6);
                DUE.is("MARKS by all looks", x.marks(7), 2);
                DUE.is("MARKS by sips", x.marks(8), 1);
                DUE.promise(25);
                DUE.is("SPLIT", x.split(2, kind, 0), 2);
                DUE.is("WORST", x.split(2, kind, 1), 4);
                DUE.promise(26);
                DUE.is("NEXT of looks", x.next(7), kind);
                DUE.promise(27);
                DUE.is("FEWEST: two are alike", x.fewest(7), -1);
                x.sort(unlike == 5 ? 4 : 5, kind, 8);
                DUE.is("FEWEST by this kind", x.fewest(1 << kind), 2);
                DUE.promise(29);
                DUE.is("MARKS: all are unlike", x.marks(1 << kind), 1);
            }
        }
    }

    /** What is asked changes nothing: it is answered the same again, in another order too. */
    private static void askedAgain() {
        TheOneWithout x = Due.tray("cups 4;law 2;pour 0 1 2 3;sort 1 1 0 0;sort 2 1 1 0;"
                + "sort 3 0 1 0;sign 3 0 1");
        int possible = x.worlds(1);
        int[] fewest = new int[16];
        int[] marks = new int[16];
        int[] next = new int[16];
        int apart = x.apart();
        for (int i = 1; i <= 15; i++) {
            fewest[i] = x.fewest(i);
            marks[i] = x.marks(i);
            next[i] = x.next(i);
        }
        DUE.promise(27);
        DUE.is("fewest(3): shade and weight tell each sort", fewest[3], 4);
        DUE.is("fewest(8)", fewest[8], 3);
        for (int i = 15; i >= 1; i--) {
            DUE.promise(29);
            DUE.is("marks(" + i + ") again", x.marks(i), marks[i]);
            DUE.promise(27);
            DUE.is("fewest(" + i + ") again", x.fewest(i), fewest[i]);
            DUE.is("fewest(" + i + ") at once again", x.fewest(i), fewest[i]);
            DUE.promise(26);
            DUE.is("next(" + i + ") again", x.next(i), next[i]);
            DUE.promise(28);
            DUE.is("apart() again", x.apart(), apart);
        }
        DUE.promise(20);
        DUE.is("worlds(1) again", x.worlds(1), possible);
    }

    private static void marks() {
        DUE.promise(29);
        TheOneWithout x = Due.tray("cups 4;law 2;pour 0 1 2 3;sort 1 0 1 0;sort 2 1 0 0;"
                + "sort 3 1 1 0");
        int[] due = {24, 4, 4, 1, 24, 4, 4, 1, 1, 1, 1, 1, 1, 1, 1, 1};
        for (int kinds = 0; kinds < 16; kinds++) {
            DUE.is("marks(" + kinds + ")", x.marks(kinds), due[kinds]);
        }
        Due.stair(x, "sign 0 3 1");
        DUE.is("possible or not", x.marks(0), 24);
        x.law(0);
        DUE.is("none is possible", x.marks(0), 1);
        x.law(2);
        Due.stair(x, "cups 4;pour 0 0 1 2;sort 1 0 0 0;sort 2 1 0 0");
        DUE.is("the greatest", x.marks(1), 3);
        DUE.is("two of one sort are no two worlds", x.marks(0), 12);
        DUE.refused(x, "marks(16)", x.marks(16), -2, 1);
        DUE.refused(x, "marks(-1)", x.marks(-1), -2, 2);
        x = Due.tray("cups 6;law 2;pour 0 1 2 3 4 5");
        DUE.is("all of 720", x.marks(7), 720);
        DUE.is("each of 720", x.marks(8), 1);
    }
}
