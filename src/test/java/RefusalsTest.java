import java.util.ArrayList;
import java.util.List;

/**
 * Each call that is refused for something else than a number beyond its limits (LimitsTest): the
 * first refusal that fits, as the promise's line has them; it is counted once, and nothing else
 * changes.
 */
public final class RefusalsTest {
    private static final Due DUE = new Due();
    private static final int BAD = -2;
    private static final int OTHER = -3;
    private static final int NOTHING = -4;
    private static final int STUCK = -5;
    private static final int FULL = -6;

    public static void main(String[] args) {
        rows();
        sets();
        copies();
        copiesInOrder();
        shows();
        says();
        pour();
        numbers();
        tellers();
        sign();
        feed();
        worlds();
        noneIsPossible();
        fewest();
        judge();
        handing();
        tries();
        truth();
        back();
        counts();
        unlikeCounts();
        DUE.end();
    }

    private static void full(String word, Due.Call call, int want) {
        DUE.refused(word, Scenes::full, call, want);
    }

    private static void none(String word, Due.Call call, int want) {
        DUE.refused(word, Scenes::noneIsPossible, call, want);
    }

    private static TheOneWithout withRow(int sort, long... elements) {
        TheOneWithout x = Scenes.full();
        Due.row(x, 5, sort, elements);
        return x;
    }

    private static void rows() {
        DUE.promise(2);
        full("row: BAD, all three", x -> x.row(8, 5, 41), BAD);
        full("row: BAD SORT over a ROW", x -> x.row(0, 5, 0), BAD);
        full("row: BAD n over a TELLER", x -> x.row(6, 0, 41), BAD);
    }

    private static void sets() {
        DUE.promise(3);
        full("set: OTHER, a TELLER", x -> x.set(6, 0, 1), OTHER);
        full("set: OTHER ahead of BAD i", x -> x.set(6, -1, 1), OTHER);
        full("set: OTHER ahead of BAD i", x -> x.set(7, 40, 1), OTHER);
        full("set: NOTHING", x -> x.set(5, 0, 1), NOTHING);
        full("set: NOTHING ahead of BAD i", x -> x.set(5, -1, 1), NOTHING);
        full("set: NOTHING ahead of BAD i", x -> x.set(5, 40, 1), NOTHING);
        full("set: BAD SHELF and BAD i", x -> x.set(8, -1, 1), BAD);
        DUE.refused("set: BAD i of no elements", () -> withRow(0), x -> x.set(5, 0, 1), BAD);
        DUE.refused("set: BAD i of one", () -> withRow(0, 1), x -> x.set(5, 1, 1), BAD);
        DUE.refused("set: BAD i of a shorter new row", () -> {
            TheOneWithout x = Scenes.full();
            x.row(Scenes.LONG, 0, 3);
            return x;
        }, x -> x.set(Scenes.LONG, 3, 1), BAD);
    }

    private static void copies() {
        DUE.promise(4);
        full("copy: OTHER, a TELLER to a ROW", x -> x.copy(6, 0, 0, 0, 1), OTHER);
        full("copy: OTHER, a ROW to a TELLER", x -> x.copy(0, 6, 0, 0, 1), OTHER);
        full("copy: OTHER, a TELLER to itself", x -> x.copy(6, 6, 0, 0, 1), OTHER);
        full("copy: OTHER, a TELLER to a TELLER", x -> x.copy(6, 7, 0, 0, 1), OTHER);
        for (int p = 0; p < 5; p++) {
            for (int q = 0; q < 5; q++) {
                int from = p;
                int to = q;
                if (p != q) {
                    full("copy: OTHER, ROWS of the SORTS " + p + " and " + q,
                            x -> x.copy(from, to, 0, 0, 1), OTHER);
                }
            }
        }
        full("copy: NOTHING in p", x -> x.copy(5, 0, 0, 0, 1), NOTHING);
        full("copy: NOTHING in q", x -> x.copy(0, 5, 0, 0, 1), NOTHING);
        full("copy: NOTHING in both", x -> x.copy(5, 5, 0, 0, 1), NOTHING);
        full("copy: BAD, all three", x -> x.copy(0, 0, -1, -1, -1), BAD);
        full("copy: BAD, no place and no element", x -> x.copy(0, 0, 5, 0, 0), BAD);
        full("copy: BAD, i and n past the last int", x -> x.copy(0, 0, Integer.MAX_VALUE, 0, 1),
                BAD);
        full("copy: BAD, j and n past the last int", x -> x.copy(0, 0, 0, Integer.MAX_VALUE, 1),
                BAD);
        full("copy: BAD, all past the last int", x -> x.copy(0, 0, Integer.MAX_VALUE,
                Integer.MAX_VALUE, Integer.MAX_VALUE), BAD);
        DUE.refused("copy: BAD, behind a shorter p", () -> withRow(0, 1, 2),
                x -> x.copy(5, 0, 0, 0, 3), BAD);
        DUE.refused("copy: BAD, behind a shorter q", () -> withRow(0, 1, 2),
                x -> x.copy(0, 5, 0, 0, 3), BAD);
        DUE.refused("copy: BAD, one of no elements", () -> withRow(0),
                x -> x.copy(5, 0, 0, 0, 1), BAD);
        DUE.refused("copy: BAD, one to no elements", () -> withRow(0),
                x -> x.copy(0, 5, 0, 0, 1), BAD);
    }

    private static void copiesInOrder() {
        DUE.promise(4);
        full("copy: BAD p ahead of OTHER", x -> x.copy(8, 6, 0, 0, 1), BAD);
        full("copy: BAD q ahead of OTHER", x -> x.copy(6, 8, 0, 0, 1), BAD);
        full("copy: BAD p ahead of NOTHING", x -> x.copy(-1, 5, 0, 0, 1), BAD);
        full("copy: BAD q ahead of NOTHING", x -> x.copy(5, -1, 0, 0, 1), BAD);
        full("copy: OTHER in p ahead of NOTHING in q", x -> x.copy(6, 5, 0, 0, 1), OTHER);
        full("copy: OTHER in q ahead of NOTHING in p", x -> x.copy(5, 7, 0, 0, 1), OTHER);
        full("copy: OTHER ahead of BAD i", x -> x.copy(6, 0, -1, 0, 1), OTHER);
        full("copy: OTHER, two SORTS, ahead of BAD j", x -> x.copy(0, 1, 0, -1, 1), OTHER);
        full("copy: OTHER, two SORTS, ahead of BAD n", x -> x.copy(1, 0, 0, 0, -1), OTHER);
        full("copy: NOTHING ahead of BAD n", x -> x.copy(5, 0, 0, 0, -1), NOTHING);
        full("copy: NOTHING ahead of BAD i", x -> x.copy(0, 5, 99, 0, 1), NOTHING);
    }

    private static void shows() {
        DUE.promise(7);
        full("show: BAD, the TELLER behind the last", x -> x.show(5, 3), BAD);
        full("show: BAD, both", x -> x.show(8, 3), BAD);
        full("show: BAD TELLER over a ROW", x -> x.show(0, 3), BAD);
        DUE.refused("show: BAD, no TELLERS", TheOneWithout::new, x -> x.show(0, 0), BAD);
    }

    private static void says() {
        DUE.promise(8);
        full("says: BAD KIND of a ROW", x -> x.says(0, 6), BAD);
        full("says: BAD KIND of NOTHING", x -> x.says(5, -1), BAD);
        full("says: BAD SHELF, BAD KIND", x -> x.says(8, 6), BAD);
        for (int s = 0; s < 5; s++) {
            int row = s;
            full("says: OTHER, a ROW in " + s, x -> x.says(row, 0), OTHER);
        }
        full("says: NOTHING", x -> x.says(5, 0), NOTHING);
        String[] above = {"0", "01", "02", "023", "0234", "025"};
        for (int own = 0; own < 6; own++) {
            for (int kind = 0; kind < 6; kind++) {
                if (above[own].indexOf('0' + kind) < 0) {
                    says(own, kind);
                }
            }
        }
    }

    private static void says(int own, int kind) {
        DUE.refused("says: OTHER, a TELLER of KIND " + own + " taken for " + kind, () -> {
            TheOneWithout x = Scenes.full();
            x.show(5, x.teller(own, 1));
            return x;
        }, x -> x.says(5, kind), OTHER);
    }

    private static void pour() {
        DUE.promise(10);
        full("pour: OTHER, a TELLER", x -> x.pour(6), OTHER);
        full("pour: NOTHING", x -> x.pour(5), NOTHING);
        full("pour: BAD, one element fewer", x -> x.pour(Scenes.SHORT), BAD);
        DUE.refused("pour: BAD, no elements", () -> withRow(0), x -> x.pour(5), BAD);
        DUE.refused("pour: BAD, the last is no SORT", () -> withRow(0, 0, 1, 2, 6),
                x -> x.pour(5), BAD);
        DUE.refused("pour: BAD, fewer, and no SORT", () -> withRow(0, 6, 6, 6),
                x -> x.pour(5), BAD);
    }

    private static void numbers() {
        DUE.promise(9);
        full("cups: BAD", x -> x.cups(0), BAD);
        DUE.promise(11);
        full("law: BAD", x -> x.law(4), BAD);
        DUE.promise(12);
        full("sort: BAD, all three", x -> x.sort(6, 3, 10), BAD);
        full("sort: BAD, SORT is no number of a SORT", x -> x.sort(0, 3, 0), BAD);
        DUE.promise(13);
        full("guest: BAD, all three", x -> x.guest(4, 6, 10), BAD);
        full("guest: BAD MINDS, WANTS NONE", x -> x.guest(0, -1, -1), BAD);
        DUE.promise(29);
        full("marks: BAD", x -> x.marks(31), BAD);
    }

    private static void tellers() {
        DUE.promise(14);
        Due.Scene four = Scenes::fullOfTellers;
        DUE.refused("teller: FULL", four, x -> x.teller(0, 0), FULL);
        DUE.refused("teller: FULL", four, x -> x.teller(5, 9), FULL);
        DUE.refused("teller: BAD KIND ahead of FULL", four, x -> x.teller(6, 0), BAD);
        DUE.refused("teller: BAD a ahead of FULL", four, x -> x.teller(0, 10), BAD);
        DUE.refused("teller: BAD, both, ahead of FULL", four, x -> x.teller(-1, -1), BAD);
        full("teller: BAD, both", x -> x.teller(6, 10), BAD);
    }

    private static void sign() {
        DUE.promise(15);
        full("sign: STUCK, no SORT has the SHADE", x -> x.sign(2, 0, 1), STUCK);
        full("sign: STUCK, the SORT is not POURED", x -> x.sign(2, 3, 5), STUCK);
        full("sign: STUCK, only SORT 4 has the WEIGHT", x -> x.sign(2, 1, 2), STUCK);
        full("sign: STUCK, known with another number", x -> x.sign(0, 0, 9), STUCK);
        full("sign: BAD place ahead of STUCK", x -> x.sign(4, 0, 1), BAD);
        full("sign: BAD number ahead of STUCK", x -> x.sign(0, 3, 6), BAD);
        none("sign: STUCK, none is POSSIBLE", x -> x.sign(2, 3, 0), STUCK);
        none("sign: STUCK, known, but none is POSSIBLE", x -> x.sign(1, 2, 5), STUCK);
        none("sign: BAD KIND ahead of STUCK", x -> x.sign(2, 4, 0), BAD);
    }

    private static void feed() {
        DUE.promise(17);
        DUE.refused("feed: FULL", Scenes::fullTape, x -> x.feed(0), FULL);
        DUE.refused("feed: FULL", Scenes::fullTape, x -> x.feed(255), FULL);
        DUE.refused("feed: BAD ahead of FULL", Scenes::fullTape, x -> x.feed(256), BAD);
        DUE.refused("feed: BAD ahead of FULL", Scenes::fullTape, x -> x.feed(-1), BAD);
    }

    private static void worlds() {
        DUE.promise(21);
        int possible = Scenes.full().worlds(1);
        full("world: STUCK, the one behind the last", x -> x.world(possible, 0), STUCK);
        full("world: STUCK", x -> x.world(Integer.MAX_VALUE, 3), STUCK);
        full("world: BAD place ahead of STUCK", x -> x.world(possible, 4), BAD);
        full("world: BAD i and place", x -> x.world(-1, -1), BAD);
        DUE.asked("world: the last", Scenes::full, x -> x.world(possible - 1, 0),
                Scenes.full().world(possible - 1, 0));
    }

    private static void noneIsPossible() {
        DUE.promise(21);
        none("world: STUCK, none is POSSIBLE", x -> x.world(0, 0), STUCK);
        none("world: BAD ahead of STUCK", x -> x.world(0, 4), BAD);
        DUE.promise(23);
        none("likely: STUCK", x -> x.likely(0, 0), STUCK);
        none("likely, SURE: STUCK", x -> x.likely(3, 1), STUCK);
        none("likely: BAD place ahead of STUCK", x -> x.likely(4, 0), BAD);
        none("likely: BAD what ahead of STUCK", x -> x.likely(0, 2), BAD);
        DUE.promise(26);
        none("next: STUCK", x -> x.next(1), STUCK);
        none("next: STUCK", x -> x.next(15), STUCK);
        none("next: BAD ahead of STUCK", x -> x.next(0), BAD);
        none("next: BAD ahead of STUCK", x -> x.next(16), BAD);
        DUE.promise(27);
        none("fewest: STUCK", x -> x.fewest(1), STUCK);
        none("fewest: STUCK", x -> x.fewest(15), STUCK);
        none("fewest: BAD ahead of STUCK", x -> x.fewest(0), BAD);
        none("fewest: BAD ahead of STUCK", x -> x.fewest(16), BAD);
        DUE.promise(28);
        none("apart: STUCK", x -> x.apart(), STUCK);
    }

    private static void fewest() {
        DUE.promise(27);
        // of 30 worlds five have the one with the other shade at place 0
        Due.Scene of25 = () -> Due.tray("cups 6;law 2;pour 0 0 0 0 1 2;sort 2 1 0 0;sign 0 0 0");
        DUE.is("POSSIBLE ones", of25.make().worlds(1), 25);
        DUE.refused("fewest: STUCK, more than 24", of25, x -> x.fewest(8), STUCK);
        DUE.refused("fewest: STUCK ahead of NONE", of25, x -> x.fewest(2), STUCK);
        DUE.refused("fewest: BAD ahead of STUCK", of25, x -> x.fewest(0), BAD);
        DUE.refused("fewest: BAD ahead of STUCK", of25, x -> x.fewest(16), BAD);
        Due.Scene of24 = () -> Due.tray("cups 4;law 2;pour 0 1 2 3");
        DUE.asked("fewest of 24", of24, x -> x.fewest(8), 3);
        Due.Scene of720 = () -> Due.tray("cups 6;law 2;pour 0 1 2 3 4 5");
        DUE.refused("fewest: STUCK, 720", of720, x -> x.fewest(15), STUCK);
    }

    private static void judge() {
        DUE.promise(30);
        full("judge: OTHER, a TELLER", x -> x.judge(6), OTHER);
        full("judge: NOTHING", x -> x.judge(5), NOTHING);
        full("judge: BAD, one element fewer", x -> x.judge(Scenes.SHORT), BAD);
        DUE.refused("judge: BAD, no elements", () -> withRow(0), x -> x.judge(5), BAD);
        DUE.refused("judge: BAD, fewer, and WRONG", () -> withRow(0, 1, 1, 1),
                x -> x.judge(5), BAD);
    }

    private static void handing() {
        DUE.promise(31);
        for (int what = 0; what < 3; what++) {
            int w = what;
            full("handing: OTHER, a TELLER", x -> x.handing(7, w), OTHER);
            full("handing: NOTHING", x -> x.handing(5, w), NOTHING);
            full("handing: BAD, one element fewer", x -> x.handing(Scenes.SHORT, w), BAD);
            DUE.refused("handing: BAD, no elements", () -> withRow(0), x -> x.handing(5, w), BAD);
            DUE.refused("handing: BAD, fewer, ahead of STUCK", () -> withRow(0, 1, 1, 1),
                    x -> x.handing(5, w), BAD);
            full("handing: STUCK, WRONG", x -> x.handing(Scenes.WRONG, w), STUCK);
            DUE.refused("handing: STUCK, the last is ahead", () -> withRow(0, 0, 1, 2, 0),
                    x -> x.handing(5, w), STUCK);
            DUE.refused("handing: STUCK, the first is no place", () -> withRow(0, 4, 1, 2, 3),
                    x -> x.handing(5, w), STUCK);
            DUE.refused("handing: STUCK, the last is no place", () -> withRow(0, 0, 1, 2, -1),
                    x -> x.handing(5, w), STUCK);
        }
        for (int what : new int[] {-1, 3}) {
            full("handing: BAD SHELF, BAD what", x -> x.handing(8, what), BAD);
            full("handing: BAD what ahead of OTHER", x -> x.handing(6, what), BAD);
            full("handing: BAD what ahead of NOTHING", x -> x.handing(5, what), BAD);
            full("handing: BAD what ahead of STUCK", x -> x.handing(Scenes.WRONG, what), BAD);
        }
    }

    private static void tries() {
        DUE.promise(38);
        full("tries: BAD, the TELLER behind the last", x -> x.tries(3), BAD);
        DUE.refused("tries: BAD, no TELLERS", TheOneWithout::new, x -> x.tries(0), BAD);
        DUE.promise(34);
        DUE.refused("tells: BAD, no TELLERS", TheOneWithout::new, x -> x.tells(0), BAD);
        none("tells: BAD, none is POSSIBLE", x -> x.tells(3), BAD);
    }

    private static void truth() {
        DUE.promise(40);
        full("truth: OTHER, a TELLER", x -> x.truth(6), OTHER);
        full("truth: NOTHING", x -> x.truth(5), NOTHING);
        full("truth: BAD, one element fewer", x -> x.truth(Scenes.SHORT), BAD);
        DUE.refused("truth: BAD, no elements", () -> withRow(0), x -> x.truth(5), BAD);
        DUE.refused("truth: BAD, fewer, ahead of STUCK", () -> withRow(0, 4, 4, 4),
                x -> x.truth(5), BAD);
        full("truth: STUCK, no WORLD", x -> x.truth(Scenes.WRONG), STUCK);
        DUE.refused("truth: STUCK, a SORT not POURED", () -> withRow(0, 1, 0, 2, 5),
                x -> x.truth(5), STUCK);
        DUE.refused("truth: STUCK, not TURNED so", () -> byLaw(1, 0, 1, 2, 1),
                x -> x.truth(5), STUCK);
        DUE.refused("truth: STUCK, not as POURED", () -> byLaw(0, 0, 2, 1, 1),
                x -> x.truth(5), STUCK);
    }

    private static TheOneWithout byLaw(int law, long... elements) {
        TheOneWithout x = withRow(3, elements);
        x.law(law);
        return x;
    }

    private static void back() {
        DUE.promise(44);
        DUE.refused("back: STUCK, nothing was kept", TheOneWithout::new, x -> x.back(), STUCK);
        DUE.refused("back: STUCK, nothing was kept", Scenes::fullTape, x -> x.back(), STUCK);
    }

    /** As many of one number as a run of 512 calls has room for. */
    private static void counts() {
        DUE.promise(45);
        List<Due.Call> calls = new ArrayList<>();
        calls.add(x -> x.cups(7));
        calls.add(x -> x.set(6, 0, 1));
        calls.add(x -> x.set(5, 0, 1));
        calls.add(x -> x.handing(Scenes.WRONG, 0));
        calls.add(x -> x.teller(0, 0));
        for (int i = 0; i < calls.size(); i++) {
            TheOneWithout x = Scenes.fullOfTellers();
            int before = x.status(12 + i);
            for (int more = 1; more <= 300; more++) {
                DUE.is("refusal of " + (BAD - i), calls.get(i).on(x), BAD - i);
            }
            DUE.is("300 refusals of " + (BAD - i), x.status(12 + i), before + 300);
        }
    }

    private static void unlikeCounts() {
        DUE.promise(45);
        TheOneWithout x = Scenes.fullOfTellers();
        x.teller(0, 0);
        int[] due = {1, 2, 3, 4, 1};
        for (int what = 12; what <= 16; what++) {
            DUE.is("status(" + what + ")", x.status(what), due[what - 12]);
        }
    }
}
