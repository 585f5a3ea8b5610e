import java.math.BigInteger;

/** What wraps around or keeps its lowest bits: the seed, elements, places, a teller's a. */
public final class WrapsTest {
    private static final Due DUE = new Due();

    public static void main(String[] args) {
        bytes();
        shorts();
        ints();
        longs();
        booleans();
        copiesKeepWhatIsIn();
        seeds();
        draws();
        seedsSet();
        turnedPlaces();
        turnedTruth();
        tellersNumber();
        DUE.end();
    }

    private static void keeps(int sort, long v, long want) {
        TheOneWithout x = new TheOneWithout();
        x.row(7, sort, 40);
        DUE.promise(3);
        DUE.is("set of SORT " + sort + " to " + v, x.set(7, 39, v), 1);
        DUE.is("element of SORT " + sort + " set to " + v, x.element(7, 39), want);
        DUE.is("the element ahead", x.element(7, 38), 0);
    }

    private static void bytes() {
        keeps(0, 127, 127);
        keeps(0, 128, -128);
        keeps(0, 255, -1);
        keeps(0, 256, 0);
        keeps(0, 257, 1);
        keeps(0, -128, -128);
        keeps(0, -129, 127);
        keeps(0, 1L << 32, 0);
        keeps(0, Long.MAX_VALUE, -1);
        keeps(0, Long.MIN_VALUE, 0);
    }

    private static void shorts() {
        keeps(1, 255, 255);
        keeps(1, 32767, 32767);
        keeps(1, 32768, -32768);
        keeps(1, 65535, -1);
        keeps(1, 65536, 0);
        keeps(1, -32768, -32768);
        keeps(1, -32769, 32767);
        keeps(1, (1L << 32) + 5, 5);
        keeps(1, Long.MAX_VALUE, -1);
        keeps(1, Long.MIN_VALUE, 0);
    }

    private static void ints() {
        keeps(2, 65536, 65536);
        keeps(2, Integer.MAX_VALUE, Integer.MAX_VALUE);
        keeps(2, Integer.MAX_VALUE + 1L, Integer.MIN_VALUE);
        keeps(2, (1L << 32) - 1, -1);
        keeps(2, 1L << 32, 0);
        keeps(2, Integer.MIN_VALUE, Integer.MIN_VALUE);
        keeps(2, Integer.MIN_VALUE - 1L, Integer.MAX_VALUE);
        keeps(2, Long.MAX_VALUE, -1);
        keeps(2, Long.MIN_VALUE, 0);
    }

    private static void longs() {
        keeps(3, 1L << 32, 1L << 32);
        keeps(3, Long.MAX_VALUE, Long.MAX_VALUE);
        keeps(3, Long.MIN_VALUE, Long.MIN_VALUE);
        keeps(3, -1, -1);
        keeps(3, 0, 0);
    }

    private static void booleans() {
        keeps(4, 0, 0);
        keeps(4, 1, 1);
        keeps(4, 2, 1);
        keeps(4, -1, 1);
        keeps(4, 256, 1);
        keeps(4, 65536, 1);
        keeps(4, 1L << 32, 1);
        keeps(4, Long.MIN_VALUE, 1);
    }

    /** What an element keeps is what is copied, poured and handed round. */
    private static void copiesKeepWhatIsIn() {
        TheOneWithout x = new TheOneWithout();
        Due.row(x, 0, 0, 256 + 1, 512, 256 + 4, -252, 256 + 5);
        x.row(1, 0, 5);
        DUE.promise(4);
        DUE.is("copy", x.copy(0, 1, 0, 0, 5), 5);
        DUE.is("element", x.element(1, 4), 5);
        DUE.promise(10);
        x.law(0);
        DUE.is("pour of what is kept", x.pour(1), 1);
        DUE.is("stands(3)", x.stands(3), 4);
        DUE.promise(40);
        DUE.is("truth of what is kept", x.truth(0), 1);
        x.cups(2);
        Due.row(x, 2, 4, 0, 77);
        DUE.promise(30);
        DUE.is("judge of booleans", x.judge(2), -1);
        DUE.promise(10);
        DUE.is("pour of booleans", x.pour(2), 1);
        DUE.is("stands(1)", x.stands(1), 1);
    }

    /** The seed behind one draw, by numbers that don't wrap. */
    private static int behind(int seed) {
        return BigInteger.valueOf(seed).multiply(BigInteger.valueOf(1103515245))
                .add(BigInteger.valueOf(12345)).intValue();
    }

    private static int upper(int seed) {
        return (int) ((seed & 0xffffffffL) / 65536);
    }

    private static void seeds() {
        DUE.promise(39);
        int[] seeds = {0, 1, -1, 2, 3, 12345, Integer.MAX_VALUE, Integer.MIN_VALUE, 1 << 30,
            65536, -65536, 777777777};
        for (int seed : seeds) {
            TheOneWithout x = Due.tray("cups 5;law 2;pour 0 1 2 3 4");
            x.seed(seed);
            int due = seed;
            for (int i = 0; i < 6; i++) {
                due = behind(due);
                DUE.is("stairs", x.stairs(), 120);
                DUE.is("SEED " + seed + " wraps", x.status(6), due);
                isWorld(x, upper(due) % 120);
            }
        }
        TheOneWithout x = new TheOneWithout();
        DUE.is("stairs of one WORLD", x.stairs(), 1);
        DUE.is("SEED, 1 at first", x.status(6), 1103527590);
    }

    /** That the truth is the world of this number: nothing is known, so all are possible. */
    private static void isWorld(TheOneWithout x, int number) {
        for (int place = 0; place < x.status(0); place++) {
            DUE.is("TRUTH is the WORLD " + number, x.stands(place), x.world(number, place));
        }
    }

    /** Below as many as there are worlds: 1 to 6 turned, 1 to 720 mixed. */
    private static void draws() {
        DUE.promise(39);
        String[] trays = {"cups 2;law 1;pour 0 1", "cups 3;law 1;pour 0 1 2",
            "cups 4;law 1;pour 0 1 2 3", "cups 5;law 1;pour 0 1 2 3 4",
            "cups 6;law 1;pour 0 1 2 3 4 5", "cups 6;law 2;pour 0 1 2 3 4 5",
            "cups 6;law 2;pour 0 0 1 1 2 2", "cups 6;law 0;pour 0 1 2 3 4 5"};
        for (String tray : trays) {
            TheOneWithout x = Due.tray(tray);
            int worlds = x.worlds(0);
            int seed = 1;
            for (int i = 0; i < 12; i++) {
                seed = behind(seed);
                DUE.is("stairs: how many WORLDS", x.stairs(), worlds);
                DUE.is("SEED", x.status(6), seed);
                isWorld(x, upper(seed) % worlds);
            }
        }
    }

    private static void seedsSet() {
        DUE.promise(42);
        TheOneWithout x = new TheOneWithout();
        int ahead = 1;
        for (int seed : new int[] {0, -1, Integer.MIN_VALUE, Integer.MAX_VALUE, 1, 65536}) {
            DUE.is("seed: the one ahead", x.seed(seed), ahead);
            DUE.promise(45);
            DUE.is("SEED", x.status(6), seed);
            DUE.promise(42);
            ahead = seed;
        }
        DUE.is("nothing is refused", x.status(12), 0);
    }

    /** What was at p is at p and k, modulo n. */
    private static void turnedPlaces() {
        for (int n = 2; n <= 6; n++) {
            DUE.promise(21);
            TheOneWithout x = new TheOneWithout();
            x.cups(n);
            long[] row = new long[n];
            for (int place = 0; place < n; place++) {
                row[place] = place;
            }
            Due.row(x, 0, 0, row);
            DUE.promise(10);
            DUE.is("TURNED by 0 to " + (n - 1), x.pour(0), n);
            DUE.promise(21);
            for (int i = 0; i < n; i++) {
                for (int place = 0; place < n; place++) {
                    DUE.is("WORLD " + i + " of " + n, x.world(i, place), (i + place) % n);
                }
            }
        }
    }

    private static void turnedTruth() {
        DUE.promise(36);
        for (int n = 2; n <= 6; n++) {
            TheOneWithout x = new TheOneWithout();
            x.cups(n);
            long[] row = new long[n];
            for (int place = 0; place < n; place++) {
                row[place] = 5 - place;
            }
            Due.row(x, 0, 0, row);
            x.pour(0);
            for (int k = 0; k < n; k++) {
                for (int place = 0; place < n; place++) {
                    x.set(0, (place + k) % n, 5 - place);
                }
                DUE.is("truth", x.truth(0), 1);
                DUE.is("turned by " + k + " of " + n, x.turned(), k);
            }
        }
    }

    private static void tellersNumber() {
        DUE.promise(34);
        int[] due = {0, 1, 2, 3, 0, 1, 2, 3, 0, 1};
        for (int a = 0; a < 10; a++) {
            TheOneWithout x = Due.tray("cups 3;law 2;pour 0 1 2");
            x.teller(0, a);
            DUE.is("a " + a + " modulo 4", x.tells(0), due[a]);
        }
    }
}
