import java.util.Arrays;

/** Which is the one without: cups of sorts on a tray, and what can be known of them. */
public final class TheOneWithout {
    public static final int NONE = -1;

    private static final int BAD = -2;
    private static final int OTHER = -3;
    private static final int NOTHING = -4;
    private static final int STUCK = -5;
    private static final int FULL = -6;
    private static final int REFUSALS = 5;
    private static final int FINE = 0;

    private static final int LEAST_CUPS = 2;
    private static final int MOST_CUPS = 6;
    private static final int SORTS = 6;
    private static final int MOST_NUMBER = 9;
    private static final int NUMBERS = 10;
    private static final int MOST_SIGNS = 24;
    private static final int MOST_TELLERS = 4;
    private static final int MOST_WORLDS = 720;

    private static final int FIXED = 0;
    private static final int TURNED = 1;
    private static final int MIXED = 2;

    private static final int LOOKS = 3;
    private static final int KINDS = 4;
    private static final int SHADE = 0;
    private static final int SIP = 3;
    private static final int ALL_KINDS = 15;
    private static final int ALL_LOOKS = 7;
    private static final int SIP_ALONE = 8;

    private static final int TELLER = 0;
    private static final int TURNER = 1;
    private static final int MIXER = 2;
    private static final int SIGNER = 3;
    private static final int SIPPER = 4;
    private static final int HANDER = 5;

    private static final int FIRST_FAULT = -20;

    private final Tray tray = new Tray();
    private final Tray kept = new Tray();
    private final Tray ahead = new Tray();
    private final Worlds worlds = new Worlds(tray);
    private final Questions questions = new Questions(tray, worlds);
    private final Handings handings = new Handings(tray, worlds);
    private final Tellers tellers = new Tellers(tray, worlds, questions, handings);
    private final Shelves shelves = new Shelves();
    private final Tape tape = new Tape(tray, worlds);
    private final int[] told = new int[MOST_CUPS];
    private final int[] refusals = new int[REFUSALS];
    private boolean isKept = false;

    public TheOneWithout() {
    }

    public int row(int s, int sort, int n) {
        if (!Shelves.isShelf(s) || !Shelves.isSort(sort) || !Shelves.isSize(n)) {
            return refuse(BAD);
        }
        shelves.putRow(s, sort, n);
        return 1;
    }

    public int set(int s, int i, long v) {
        int fault = shelves.faultOfRow(s);
        if (fault != FINE) {
            return refuse(fault);
        }
        if (!shelves.hasElement(s, i)) {
            return refuse(BAD);
        }
        shelves.putElement(s, i, v);
        return 1;
    }

    public int copy(int p, int q, int i, int j, int n) {
        int fault = shelves.faultOfPair(p, q);
        if (fault != FINE) {
            return refuse(fault);
        }
        if (!shelves.hasElements(p, i, n) || !shelves.hasElements(q, j, n)) {
            return refuse(BAD);
        }
        shelves.copyElements(p, q, i, j, n);
        return n;
    }

    public long element(int s, int i) {
        return shelves.elementOf(s, i);
    }

    public int holds(int s) {
        return shelves.thingOf(s);
    }

    public int show(int s, int teller) {
        if (!Shelves.isShelf(s) || teller != NONE && !tray.hasTeller(teller)) {
            return refuse(BAD);
        }
        shelves.putTeller(s, teller);
        return 1;
    }

    public int says(int s, int kind) {
        if (!Shelves.isShelf(s) || !Tellers.isKind(kind)) {
            return refuse(BAD);
        }
        int thing = shelves.thingOf(s);
        if (thing == NONE) {
            return refuse(NOTHING);
        }
        int teller = thing - Shelves.FIRST_TELLER;
        if (!tray.hasTeller(teller) || !Tellers.isUnder(tray.kindOf(teller), kind)) {
            return refuse(OTHER);
        }
        if (kind == TELLER) {
            return tray.tellerNumberOf(teller);
        }
        worlds.refresh();
        return tellers.sayingOf(teller);
    }

    public int cups(int n) {
        if (n < LEAST_CUPS || n > MOST_CUPS) {
            return refuse(BAD);
        }
        int were = tray.cups;
        tray.layCups(n);
        return were;
    }

    public int pour(int s) {
        int fault = faultOfSorts(s);
        if (fault != FINE) {
            return refuse(fault);
        }
        tray.pourRow(told);
        worlds.refresh();
        return worlds.allCount;
    }

    public int law(int v) {
        if (v < FIXED || v > MIXED) {
            return refuse(BAD);
        }
        int was = tray.law;
        tray.setLaw(v);
        return was;
    }

    public int sort(int sort, int what, int v) {
        if (!isSort(sort) || !isLook(what) || !isNumber(v)) {
            return refuse(BAD);
        }
        int was = tray.numberOf(what, sort);
        tray.setNumber(sort, what, v);
        return was;
    }

    public int guest(int guest, int sort, int minds) {
        if (!tray.hasPlace(guest) || sort != NONE && !isSort(sort) || !isNumber(minds)) {
            return refuse(BAD);
        }
        tray.setGuest(guest, sort, minds);
        return 1;
    }

    public int teller(int kind, int a) {
        if (!Tellers.isKind(kind) || !isNumber(a)) {
            return refuse(BAD);
        }
        if (tray.tellerCount >= MOST_TELLERS) {
            return refuse(FULL);
        }
        return tray.addTeller(kind, a);
    }

    public int sign(int place, int kind, int v) {
        if (!tray.hasPlace(place) || !canBeSeen(kind, v)) {
            return refuse(BAD);
        }
        worlds.refresh();
        int left = worlds.howManyHave(place, kind, v);
        if (left == 0) {
            return refuse(STUCK);
        }
        if (!tray.learn(place, kind, v)) {
            return refuse(FULL);
        }
        return left;
    }

    public int forget() {
        int were = tray.signCount;
        tray.dropSigns();
        return were;
    }

    public int feed(int letter) {
        if (letter < 0 || letter > 255) {
            return refuse(BAD);
        }
        if (!tape.put(letter)) {
            return refuse(FULL);
        }
        return tape.size;
    }

    public int wipe() {
        int was = tape.size;
        tape.size = 0;
        return was;
    }

    public int stair() {
        ahead.takeAllOf(tray);
        int statements = tape.readStatements();
        tape.size = 0;
        if (statements == NONE) {
            tray.takeAllOf(ahead);
            refuse(BAD);
            return FIRST_FAULT - tape.fault;
        }
        return statements;
    }

    public int worlds(int what) {
        if (!isEither(what)) {
            return refuse(BAD);
        }
        worlds.refresh();
        return what == 0 ? worlds.allCount : worlds.possibleCount;
    }

    public int world(int i, int place) {
        if (i < 0 || !tray.hasPlace(place)) {
            return refuse(BAD);
        }
        worlds.refresh();
        if (i >= worlds.possibleCount) {
            return refuse(STUCK);
        }
        return Worlds.sortAt(worlds.possibleOf(i), place);
    }

    public int sorts(int place) {
        if (!tray.hasPlace(place)) {
            return refuse(BAD);
        }
        worlds.refresh();
        return worlds.sortsAt(place);
    }

    public int likely(int place, int what) {
        if (!tray.hasPlace(place) || !isEither(what)) {
            return refuse(BAD);
        }
        worlds.refresh();
        if (worlds.possibleCount <= 0) {
            return refuse(STUCK);
        }
        int sort = worlds.likeliestAt(place);
        return what == 0 ? sort : 1000 * worlds.howManyStand(place, sort) / worlds.possibleCount;
    }

    public int known() {
        worlds.refresh();
        return worlds.knownPlaces();
    }

    public int split(int place, int kind, int what) {
        if (!tray.hasPlace(place) || !isSignKind(kind) || !isEither(what)) {
            return refuse(BAD);
        }
        worlds.refresh();
        return what == 0 ? questions.splitOf(place, kind) : questions.worstOf(place, kind);
    }

    public int next(int kinds) {
        if (kinds < 1 || kinds > ALL_KINDS) {
            return refuse(BAD);
        }
        worlds.refresh();
        if (worlds.possibleCount == 0) {
            return refuse(STUCK);
        }
        return questions.nextOf(kinds);
    }

    public int fewest(int kinds) {
        if (kinds < 1 || kinds > ALL_KINDS) {
            return refuse(BAD);
        }
        worlds.refresh();
        if (worlds.possibleCount == 0 || worlds.possibleCount > Questions.MOST_ASKED) {
            return refuse(STUCK);
        }
        return questions.fewestOf(kinds);
    }

    public int apart() {
        worlds.refresh();
        if (worlds.possibleCount == 0) {
            return refuse(STUCK);
        }
        return questions.placesThatTell();
    }

    public int marks(int kinds) {
        if (kinds < 0 || kinds > ALL_KINDS) {
            return refuse(BAD);
        }
        worlds.refresh();
        return questions.mostAlike(kinds);
    }

    public int judge(int s) {
        int fault = faultOfTold(s);
        if (fault != FINE) {
            return refuse(fault);
        }
        return handings.wrongIn(told);
    }

    public int handing(int s, int what) {
        if (what < 0 || what > 2) {
            return refuse(BAD);
        }
        int fault = faultOfTold(s);
        if (fault != FINE) {
            return refuse(fault);
        }
        if (handings.wrongIn(told) != NONE) {
            return refuse(STUCK);
        }
        if (what == 1) {
            return handings.swapsOf(told);
        }
        worlds.refresh();
        return what == 0 ? handings.meanOf(told) : handings.costInTruth(told);
    }

    public int best(int guest) {
        if (guest != NONE && !tray.hasPlace(guest)) {
            return refuse(BAD);
        }
        worlds.refresh();
        handings.findBest();
        return guest == NONE ? handings.leastMean() : handings.bestPlaceOf(guest);
    }

    public int mind(int guest, int place) {
        if (!tray.hasPlace(guest) || !tray.hasPlace(place)) {
            return refuse(BAD);
        }
        worlds.refresh();
        return handings.wrongWorlds(guest, place);
    }

    public int tells(int teller) {
        if (!tray.hasTeller(teller)) {
            return refuse(BAD);
        }
        worlds.refresh();
        return tellers.sayingOf(teller);
    }

    public int odd(int place) {
        if (!tray.hasPlace(place)) {
            return refuse(BAD);
        }
        worlds.refresh();
        return worlds.oddAt(place);
    }

    public int turned() {
        return tray.turnsToTruth();
    }

    public int look(int place, int kind) {
        if (!tray.hasPlace(place) || !isSignKind(kind)) {
            return refuse(BAD);
        }
        int number = tray.numberInTruth(place, kind);
        if (!tray.learn(place, kind, number)) {
            return refuse(FULL);
        }
        return number;
    }

    public int tries(int teller) {
        if (!tray.hasTeller(teller)) {
            return refuse(BAD);
        }
        // each look adds a sign, so there are never more looks than signs
        for (int looks = 0; looks <= MOST_SIGNS; looks++) {
            worlds.refresh();
            // with one possible world, too, it says NONE
            int said = tellers.sayingOf(teller);
            if (said == NONE) {
                return looks;
            }
            int place = said / 10;
            int kind = said % 10;
            if (tray.knows(place, kind)) {
                return looks;
            }
            if (!tray.learn(place, kind, tray.numberInTruth(place, kind))) {
                return refuse(FULL);
            }
        }
        return MOST_SIGNS;
    }

    public int stairs() {
        worlds.refresh();
        int many = worlds.allCount;
        tray.setTruth(worlds.worldOf(tray.draw(many)));
        return many;
    }

    public int truth(int s) {
        int fault = faultOfSorts(s);
        if (fault != FINE) {
            return refuse(fault);
        }
        worlds.refresh();
        int world = Worlds.worldIn(told, tray.cups);
        if (!worlds.isWorld(world)) {
            return refuse(STUCK);
        }
        tray.setTruth(world);
        return 1;
    }

    public int stands(int place) {
        if (!tray.hasPlace(place)) {
            return refuse(BAD);
        }
        return tray.truthAt(place);
    }

    public int seed(int v) {
        int was = tray.seed;
        tray.seed = v;
        return was;
    }

    public int image() {
        kept.takeAllOf(tray);
        isKept = true;
        return 1;
    }

    public int back() {
        if (!isKept) {
            return refuse(STUCK);
        }
        tray.takeAllOf(kept);
        shelves.dropTellersFrom(tray.tellerCount);
        return 1;
    }

    public int status(int what) {
        switch (what) {
            case 0:
                return tray.cups;
            case 1:
                return tray.law;
            case 2:
                return tray.tellerCount;
            case 3:
                return tray.signCount;
            case 4:
                return tray.unlikePoured();
            case 5:
                return tape.size;
            case 6:
                return tray.seed;
            case 7:
                return shelves.howManyHold();
            default:
                return what >= 12 && what < 12 + REFUSALS ? refusals[what - 12] : NONE;
        }
    }

    private int refuse(int why) {
        int i = BAD - why;
        if (i >= 0 && i < refusals.length) {
            refusals[i]++;
        }
        return why;
    }

    /** Reads as many elements as there are cups; what can be no place and no sort becomes NONE. */
    private int faultOfTold(int s) {
        int fault = shelves.faultOfRow(s);
        if (fault != FINE) {
            return fault;
        }
        if (!shelves.hasElements(s, 0, tray.cups)) {
            return BAD;
        }
        for (int i = 0; i < told.length; i++) {
            long v = shelves.elementOf(s, i);
            told[i] = v >= 0 && v < MOST_CUPS ? (int) v : NONE;
        }
        return FINE;
    }

    private int faultOfSorts(int s) {
        int fault = faultOfTold(s);
        for (int i = 0; i < told.length && i < tray.cups && fault == FINE; i++) {
            if (!isSort(told[i])) {
                fault = BAD;
            }
        }
        return fault;
    }

    private static boolean isSort(int sort) {
        return sort >= 0 && sort < SORTS;
    }

    private static boolean isNumber(int v) {
        return v >= 0 && v <= MOST_NUMBER;
    }

    private static boolean isLook(int what) {
        return what >= 0 && what < LOOKS;
    }

    private static boolean isSignKind(int kind) {
        return kind >= 0 && kind < KINDS;
    }

    private static boolean isEither(int what) {
        return what == 0 || what == 1;
    }

    private static boolean canBeSeen(int kind, int v) {
        return kind == SIP ? isSort(v) : isLook(kind) && isNumber(v);
    }

    /** What there is: all that an image keeps. */
    static final class Tray {
        int cups = 5;
        int law = TURNED;
        int seed = 1;
        int signCount = 0;
        int tellerCount = 0;
        boolean worldsAreOld = true;
        boolean possibleAreOld = true;
        private final int[] poured = new int[MOST_CUPS];
        private final int[] stood = new int[MOST_CUPS];
        private final int[] numbers = new int[SORTS * LOOKS];
        private final int[] wants = new int[MOST_CUPS];
        private final int[] minds = new int[MOST_CUPS];
        private final int[] signs = new int[MOST_SIGNS];
        private final int[] tellerKinds = new int[MOST_TELLERS];
        private final int[] tellerNumbers = new int[MOST_TELLERS];

        Tray() {
            Arrays.fill(wants, NONE);
        }

        void takeAllOf(Tray other) {
            cups = other.cups;
            law = other.law;
            seed = other.seed;
            signCount = other.signCount;
            tellerCount = other.tellerCount;
            System.arraycopy(other.poured, 0, poured, 0, MOST_CUPS);
            System.arraycopy(other.stood, 0, stood, 0, MOST_CUPS);
            System.arraycopy(other.numbers, 0, numbers, 0, SORTS * LOOKS);
            System.arraycopy(other.wants, 0, wants, 0, MOST_CUPS);
            System.arraycopy(other.minds, 0, minds, 0, MOST_CUPS);
            System.arraycopy(other.signs, 0, signs, 0, MOST_SIGNS);
            System.arraycopy(other.tellerKinds, 0, tellerKinds, 0, MOST_TELLERS);
            System.arraycopy(other.tellerNumbers, 0, tellerNumbers, 0, MOST_TELLERS);
            worldsAreOld = true;
        }

        boolean hasPlace(int place) {
            return place >= 0 && place < cups && place < MOST_CUPS;
        }

        boolean hasTeller(int teller) {
            return teller >= 0 && teller < tellerCount && teller < MOST_TELLERS;
        }

        int kindOf(int teller) {
            return hasTeller(teller) ? tellerKinds[teller] : NONE;
        }

        int tellerNumberOf(int teller) {
            return hasTeller(teller) ? tellerNumbers[teller] : 0;
        }

        int addTeller(int kind, int a) {
            int teller = tellerCount;
            if (teller < 0 || teller >= MOST_TELLERS) {
                return NONE;
            }
            tellerKinds[teller] = kind;
            tellerNumbers[teller] = a;
            tellerCount++;
            return teller;
        }

        void layCups(int n) {
            cups = n;
            Arrays.fill(poured, 0);
            Arrays.fill(stood, 0);
            worldsAreOld = true;
            dropSigns();
        }

        void pourRow(int[] row) {
            for (int place = 0; place < MOST_CUPS && place < row.length; place++) {
                int sort = hasPlace(place) ? row[place] : 0;
                poured[place] = sort;
                stood[place] = sort;
            }
            worldsAreOld = true;
            dropSigns();
        }

        void setLaw(int v) {
            law = v;
            worldsAreOld = true;
        }

        void setTruth(int world) {
            for (int place = 0; place < MOST_CUPS; place++) {
                stood[place] = Worlds.sortAt(world, place);
            }
            dropSigns();
        }

        void setNumber(int sort, int look, int v) {
            int i = sort * LOOKS + look;
            if (i >= 0 && i < numbers.length) {
                numbers[i] = v;
            }
            possibleAreOld = true;
        }

        void setGuest(int guest, int sort, int minded) {
            if (hasPlace(guest)) {
                wants[guest] = sort;
                minds[guest] = minded;
            }
        }

        int wantOf(int guest) {
            return guest >= 0 && guest < wants.length ? wants[guest] : NONE;
        }

        int mindOf(int guest) {
            return guest >= 0 && guest < minds.length ? minds[guest] : 0;
        }

        int truthAt(int place) {
            return place >= 0 && place < stood.length ? stood[place] : 0;
        }

        int numberOf(int kind, int sort) {
            int i = sort * LOOKS + kind;
            if (kind == SIP || i < 0 || i >= numbers.length) {
                return sort;
            }
            return numbers[i];
        }

        int numberInTruth(int place, int kind) {
            return numberOf(kind, truthAt(place));
        }

        int placeOfSign(int i) {
            return i >= 0 && i < signs.length ? signs[i] / (KINDS * NUMBERS) : NONE;
        }

        /** Whether a sign is known of a place, whatever its number has become since. */
        boolean knows(int place, int kind) {
            for (int i = 0; i < signCount && i < signs.length; i++) {
                if (signs[i] / NUMBERS == place * KINDS + kind) {
                    return true;
                }
            }
            return false;
        }

        /** Knows the sign from now on, unless it is known already; false if there is no room. */
        boolean learn(int place, int kind, int number) {
            if (knows(place, kind)) {
                return true;
            }
            if (signCount < 0 || signCount >= signs.length) {
                return false;
            }
            signs[signCount] = signFor(place, kind, number);
            signCount++;
            possibleAreOld = true;
            return true;
        }

        void dropSigns() {
            signCount = 0;
            possibleAreOld = true;
        }

        /** The sorts (bits) that have the i-th sign. */
        int sortsWithSign(int i) {
            int sign = i >= 0 && i < signs.length ? signs[i] : 0;
            int kind = sign / NUMBERS % KINDS;
            int number = sign % NUMBERS;
            if (kind == SIP) {
                return 1 << number;
            }
            int bits = 0;
            for (int at = kind; at < numbers.length; at += LOOKS) {
                if (numbers[at] == number) {
                    bits |= 1 << at / LOOKS;
                }
            }
            return bits;
        }

        int unlikePoured() {
            int bits = 0;
            for (int place = 0; place < cups && place < poured.length; place++) {
                bits |= 1 << poured[place];
            }
            return Integer.bitCount(bits);
        }

        int howManyPoured(int sort) {
            int many = 0;
            for (int place = 0; place < cups && place < poured.length; place++) {
                if (poured[place] == sort) {
                    many++;
                }
            }
            return many;
        }

        /** What stands at a place when the poured cups are turned about by so many places. */
        int pouredAndTurned(int place, int turns) {
            int from = place < turns ? place - turns + cups : place - turns;
            return from >= 0 && from < poured.length ? poured[from] : 0;
        }

        int turnsToTruth() {
            for (int turns = 0; turns < cups; turns++) {
                if (isTurnedSo(turns)) {
                    return turns;
                }
            }
            return NONE;
        }

        private boolean isTurnedSo(int turns) {
            for (int place = 0; place < cups; place++) {
                if (pouredAndTurned(place, turns) != truthAt(place)) {
                    return false;
                }
            }
            return true;
        }

        int draw(int below) {
            seed = seed * 1103515245 + 12345;
            return below > 0 ? (seed >>> 16) % below : 0;
        }

        /** A sign is kept as one number. */
        static int signFor(int place, int kind, int number) {
            return (place * KINDS + kind) * NUMBERS + number;
        }
    }

    /**
     * All worlds and the possible ones. A world is one number, three bits a place and the first
     * place highest, so that the order of the numbers is the order of the rows.
     */
    static final class Worlds {
        private static final int DIGIT = 7;
        private static final int STRIDE = 8;
        private static final int[] SHIFTS = {15, 12, 9, 6, 3, 0};

        int allCount = 0;
        int possibleCount = 0;
        private final Tray tray;
        private final int[] all = new int[MOST_WORLDS];
        private final int[] possible = new int[MOST_WORLDS];
        private final int[] many = new int[MOST_CUPS * STRIDE];
        private final int[] mixed = new int[MOST_CUPS];
        private final int[] allowed = new int[MOST_CUPS];

        Worlds(Tray tray) {
            this.tray = tray;
        }

        static int sortAt(int world, int place) {
            return place >= 0 && place < SHIFTS.length ? world >> SHIFTS[place] & DIGIT : 0;
        }

        /** A sort as it stands in a world's number. */
        static int putAt(int sort, int place) {
            return place >= 0 && place < SHIFTS.length ? sort << SHIFTS[place] : 0;
        }

        static int worldIn(int[] row, int n) {
            int world = 0;
            for (int place = 0; place < n && place < row.length && place < SHIFTS.length; place++) {
                world |= (row[place] & DIGIT) << SHIFTS[place];
            }
            return world;
        }

        /** The worlds are found when they are asked for, not at every change. */
        void refresh() {
            if (tray.worldsAreOld) {
                tray.worldsAreOld = false;
                tray.possibleAreOld = true;
                allCount = 0;
                if (tray.law == MIXED) {
                    findMixed();
                } else {
                    findTurned(tray.law == FIXED ? 1 : tray.cups);
                }
            }
            if (tray.possibleAreOld) {
                tray.possibleAreOld = false;
                findPossible();
            }
        }

        private void findMixed() {
            int n = 0;
            for (int sort = 0; sort < SORTS; sort++) {
                for (int left = tray.howManyPoured(sort); left > 0 && n < mixed.length; left--) {
                    mixed[n] = sort;
                    n++;
                }
            }
            boolean more = true;
            for (int i = 0; i < MOST_WORLDS && more; i++) {
                all[i] = worldIn(mixed, n);
                allCount = i + 1;
                more = stepMixed(n);
            }
        }

        /** Makes the mixed row the next one in order; false behind the last. */
        private boolean stepMixed(int n) {
            if (n > mixed.length) {
                return false;
            }
            int i = n - 2;
            while (i >= 0 && mixed[i] >= mixed[i + 1]) {
                i--;
            }
            if (i < 0) {
                return false;
            }
            int j = n - 1;
            while (j > i && mixed[j] <= mixed[i]) {
                j--;
            }
            int greater = mixed[j];
            mixed[j] = mixed[i];
            mixed[i] = greater;
            int high = n - 1;
            for (int low = i + 1; low < high; low++) {
                int was = mixed[low];
                mixed[low] = mixed[high];
                mixed[high] = was;
                high--;
            }
            return true;
        }

        private void findTurned(int turns) {
            for (int k = 0; k < turns; k++) {
                for (int place = 0; place < tray.cups && place < mixed.length; place++) {
                    mixed[place] = tray.pouredAndTurned(place, k);
                }
                int world = worldIn(mixed, tray.cups);
                if (!isWorld(world)) {
                    insertWorld(world);
                }
            }
        }

        private void insertWorld(int world) {
            int i = allCount;
            if (i < 0 || i >= all.length) {
                return;
            }
            while (i > 0 && all[i - 1] > world) {
                all[i] = all[i - 1];
                i--;
            }
            all[i] = world;
            allCount++;
        }

        private void findPossible() {
            Arrays.fill(allowed, (1 << SORTS) - 1);
            for (int i = 0; i < tray.signCount; i++) {
                int place = tray.placeOfSign(i);
                if (place >= 0 && place < allowed.length) {
                    allowed[place] &= tray.sortsWithSign(i);
                }
            }
            Arrays.fill(many, 0);
            possibleCount = 0;
            for (int i = 0; i < allCount && i < all.length; i++) {
                if (isAllowed(all[i])) {
                    takePossible(all[i]);
                }
            }
        }

        private boolean isAllowed(int world) {
            for (int place = 0; place < tray.cups && place < allowed.length; place++) {
                if ((allowed[place] >> (world >> SHIFTS[place] & DIGIT) & 1) == 0) {
                    return false;
                }
            }
            return true;
        }

        private void takePossible(int world) {
            if (possibleCount >= possible.length) {
                return;
            }
            possible[possibleCount] = world;
            possibleCount++;
            for (int place = 0; place < tray.cups && place < SHIFTS.length; place++) {
                many[place * STRIDE + (world >> SHIFTS[place] & DIGIT)]++;
            }
        }

        int worldOf(int i) {
            return i >= 0 && i < allCount && i < all.length ? all[i] : 0;
        }

        int possibleOf(int i) {
            return i >= 0 && i < possibleCount && i < possible.length ? possible[i] : 0;
        }

        boolean isWorld(int world) {
            for (int i = 0; i < allCount && i < all.length; i++) {
                if (all[i] == world) {
                    return true;
                }
            }
            return false;
        }

        /** In how many possible worlds a sort stands at a place. */
        int howManyStand(int place, int sort) {
            int i = place * STRIDE + sort;
            return i >= 0 && i < many.length ? many[i] : 0;
        }

        /** How many possible worlds have a sign. */
        int howManyHave(int place, int kind, int number) {
            int have = 0;
            for (int sort = 0; sort < SORTS; sort++) {
                if (tray.numberOf(kind, sort) == number) {
                    have += howManyStand(place, sort);
                }
            }
            return have;
        }

        int sortsAt(int place) {
            int bits = 0;
            for (int sort = 0; sort < SORTS; sort++) {
                if (howManyStand(place, sort) > 0) {
                    bits |= 1 << sort;
                }
            }
            return bits;
        }

        int likeliestAt(int place) {
            int likeliest = 0;
            for (int sort = 1; sort < SORTS; sort++) {
                if (howManyStand(place, sort) > howManyStand(place, likeliest)) {
                    likeliest = sort;
                }
            }
            return likeliest;
        }

        boolean isKnown(int place) {
            return Integer.bitCount(sortsAt(place)) <= 1;
        }

        int knownPlaces() {
            int bits = 0;
            for (int place = 0; place < tray.cups; place++) {
                if (isKnown(place)) {
                    bits |= 1 << place;
                }
            }
            return bits;
        }

        /** Every world has what was poured, so a sort stands at no other place if it was poured once. */
        int oddAt(int place) {
            int odd = 0;
            for (int sort = 0; sort < SORTS; sort++) {
                if (tray.howManyPoured(sort) == 1) {
                    odd += howManyStand(place, sort);
                }
            }
            return odd;
        }
    }

    /** Counts how often each key came since the last start; as many keys as there can be worlds. */
    static final class Tally {
        private static final int ROOM = 1024;
        private static final int SPREAD = 0x9E3779B1;
        private static final int SHIFT = 22;

        private final int[] keys = new int[ROOM];
        private final int[] counts = new int[ROOM];
        private final int[] rounds = new int[ROOM];
        private int round = 0;

        void start() {
            round++;
        }

        int add(int key) {
            int at = key * SPREAD >>> SHIFT;
            for (int i = 0; i < ROOM; i++) {
                if (rounds[at] != round) {
                    rounds[at] = round;
                    keys[at] = key;
                    counts[at] = 0;
                }
                if (keys[at] == key) {
                    counts[at]++;
                    return counts[at];
                }
                at = at + 1 & ROOM - 1;
            }
            return 0;
        }
    }

    /** What looks and sips can tell of the possible worlds. */
    static final class Questions {
        static final int MOST_ASKED = 24;
        private static final int MOST_STEPS = 4;

        private final Tray tray;
        private final Worlds worlds;
        private final Tally tally = new Tally();
        private final int[] likes = new int[SORTS];
        private final int[] parts = new int[MOST_CUPS * KINDS * SORTS];
        private int questionCount = 0;
        private int mostParts = 1;

        Questions(Tray tray, Worlds worlds) {
            this.tray = tray;
            this.worlds = worlds;
        }

        int splitOf(int place, int kind) {
            int unlike = 0;
            for (int number = 0; number <= MOST_NUMBER; number++) {
                if (worlds.howManyHave(place, kind, number) > 0) {
                    unlike++;
                }
            }
            return unlike;
        }

        int worstOf(int place, int kind) {
            int worst = 0;
            for (int number = 0; number <= MOST_NUMBER; number++) {
                worst = Math.max(worst, worlds.howManyHave(place, kind, number));
            }
            return worst;
        }

        int nextOf(int kinds) {
            int found = NONE;
            int least = MOST_WORLDS + 1;
            for (int place = 0; place < tray.cups; place++) {
                for (int kind = 0; kind < KINDS; kind++) {
                    int worst = (kinds >> kind & 1) == 1 ? worstOf(place, kind) : least;
                    if (worst < least) {
                        least = worst;
                        found = 10 * place + kind;
                    }
                }
            }
            return found;
        }

        /** The fewest places, then the least bits, whose sorts tell the possible worlds apart. */
        int placesThatTell() {
            int sets = 1 << tray.cups;
            for (int size = 0; size <= tray.cups; size++) {
                for (int set = 0; set < sets; set++) {
                    if (Integer.bitCount(set) == size && isToldBy(set)) {
                        return set;
                    }
                }
            }
            return sets - 1;
        }

        private boolean isToldBy(int set) {
            int seen = 0;
            for (int place = 0; place < tray.cups; place++) {
                if ((set >> place & 1) == 1) {
                    seen |= Worlds.putAt(Worlds.DIGIT, place);
                }
            }
            tally.start();
            for (int i = 0; i < worlds.possibleCount; i++) {
                if (tally.add(worlds.possibleOf(i) & seen) > 1) {
                    return false;
                }
            }
            return true;
        }

        int mostAlike(int kinds) {
            findLikes(kinds);
            tally.start();
            int most = 0;
            for (int i = 0; i < worlds.allCount; i++) {
                most = Math.max(most, tally.add(likeOf(worlds.worldOf(i))));
            }
            return most;
        }

        /** For each sort the least one that has all the same signs of these kinds. */
        private void findLikes(int kinds) {
            for (int sort = 0; sort < SORTS; sort++) {
                int like = 0;
                while (like < sort && !areAlike(sort, like, kinds)) {
                    like++;
                }
                likes[sort] = like;
            }
        }

        private boolean areAlike(int sort, int other, int kinds) {
            for (int kind = 0; kind < KINDS; kind++) {
                if ((kinds >> kind & 1) == 1
                        && tray.numberOf(kind, sort) != tray.numberOf(kind, other)) {
                    return false;
                }
            }
            return true;
        }

        private int likeOf(int world) {
            int like = 0;
            for (int place = 0; place < tray.cups; place++) {
                int sort = Worlds.sortAt(world, place);
                if (sort < likes.length) {
                    like |= Worlds.putAt(likes[sort], place);
                }
            }
            return like;
        }

        /** Told for at most MOST_ASKED possible worlds, each a bit. */
        int fewestOf(int kinds) {
            if (!canEverTell(kinds)) {
                return NONE;
            }
            findParts(kinds);
            int every = (1 << worlds.possibleCount) - 1;
            for (int steps = 0; steps <= MOST_STEPS; steps++) {
                if (canTell(every, steps)) {
                    return steps;
                }
            }
            return NONE;
        }

        private boolean canEverTell(int kinds) {
            findLikes(kinds);
            tally.start();
            for (int i = 0; i < worlds.possibleCount; i++) {
                if (tally.add(likeOf(worlds.possibleOf(i))) > 1) {
                    return false;
                }
            }
            return true;
        }

        /** A sip tells all that the looks at the same place tell: with it no look is needed. */
        private void findParts(int kinds) {
            int asked = (kinds >> SIP & 1) == 1 ? SIP_ALONE : kinds;
            Arrays.fill(parts, 0);
            questionCount = 0;
            mostParts = 1;
            for (int kind = 0; kind < KINDS; kind++) {
                if ((asked >> kind & 1) == 1) {
                    findLikes(1 << kind);
                    for (int place = 0; place < tray.cups; place++) {
                        findPartsAt(place);
                    }
                }
            }
        }

        private void findPartsAt(int place) {
            int first = questionCount * SORTS;
            int seen = 0;
            for (int i = 0; i < worlds.possibleCount; i++) {
                int sort = Worlds.sortAt(worlds.possibleOf(i), place);
                int part = sort < likes.length ? first + likes[sort] : NONE;
                if (part >= 0 && part < parts.length) {
                    parts[part] |= 1 << i;
                    seen |= 1 << likes[sort];
                }
            }
            mostParts = Math.max(mostParts, Integer.bitCount(seen));
            questionCount++;
        }

        /** Whether so many steps surely tell which of the worlds that are left it is. */
        private boolean canTell(int left, int steps) {
            if ((left & left - 1) == 0) {
                return true;
            }
            if (steps <= 0 || Integer.bitCount(left) > mostTold(steps)) {
                return false;
            }
            for (int question = 0; question < questionCount; question++) {
                if (canTellBy(question, left, steps)) {
                    return true;
                }
            }
            return false;
        }

        /** How many worlds so many steps can tell at most. */
        private int mostTold(int steps) {
            int most = 1;
            for (int i = 0; i < steps && i < MOST_STEPS; i++) {
                most *= mostParts;
            }
            return most;
        }

        private boolean canTellBy(int question, int left, int steps) {
            int first = question * SORTS;
            if (first < 0 || first + SORTS > parts.length) {
                return false;
            }
            for (int i = first; i < first + SORTS; i++) {
                int part = left & parts[i];
                if (part == left || !canTell(part, steps - 1)) {
                    return false;
                }
            }
            return true;
        }
    }

    /** Which guest gets which place, and how much is minded. */
    static final class Handings {
        private final Tray tray;
        private final Worlds worlds;
        private final int[] weights = new int[MOST_CUPS * MOST_CUPS];
        // by the places (bits) that the guests ahead have: the least mean of all guests behind
        private final int[] least = new int[1 << MOST_CUPS];
        private final int[] bestPlaces = new int[MOST_CUPS];
        private final int[] holders = new int[MOST_CUPS];
        private final int[] takes = new int[MOST_CUPS];
        private int fewestSwaps = NONE;

        Handings(Tray tray, Worlds worlds) {
            this.tray = tray;
            this.worlds = worlds;
        }

        /** The first guest whose place is none, or one of a guest ahead. */
        int wrongIn(int[] handing) {
            int used = 0;
            for (int guest = 0; guest < tray.cups && guest < handing.length; guest++) {
                int place = handing[guest];
                if (!tray.hasPlace(place) || (used >> place & 1) == 1) {
                    return guest;
                }
                used |= 1 << place;
            }
            return NONE;
        }

        int wrongWorlds(int guest, int place) {
            int sort = tray.wantOf(guest);
            return sort == NONE ? 0 : worlds.possibleCount - worlds.howManyStand(place, sort);
        }

        private boolean suits(int guest, int place) {
            int sort = tray.wantOf(guest);
            return sort == NONE || tray.truthAt(place) == sort;
        }

        int meanOf(int[] handing) {
            int mean = 0;
            for (int guest = 0; guest < tray.cups && guest < handing.length; guest++) {
                mean += tray.mindOf(guest) * wrongWorlds(guest, handing[guest]);
            }
            return mean;
        }

        int costInTruth(int[] handing) {
            int cost = 0;
            for (int guest = 0; guest < tray.cups && guest < handing.length; guest++) {
                if (!suits(guest, handing[guest])) {
                    cost += tray.mindOf(guest);
                }
            }
            return cost;
        }

        int swapsOf(int[] handing) {
            for (int guest = 0; guest < tray.cups && guest < handing.length; guest++) {
                int place = handing[guest];
                if (tray.hasPlace(place)) {
                    holders[place] = guest;
                }
            }
            fewestSwaps = NONE;
            tryPlaces(0, 0);
            return fewestSwaps;
        }

        /** Gives each guest from this one on a place that suits and is not used. */
        private void tryPlaces(int guest, int used) {
            if (guest >= tray.cups || guest >= takes.length) {
                int swaps = tray.cups - roundsOfTakes();
                fewestSwaps = fewestSwaps == NONE ? swaps : Math.min(fewestSwaps, swaps);
                return;
            }
            for (int place = 0; place < tray.cups; place++) {
                tryPlace(guest, place, used);
            }
        }

        private void tryPlace(int guest, int place, int used) {
            if (guest < 0 || guest >= takes.length || (used >> place & 1) == 1
                    || !suits(guest, place)) {
                return;
            }
            takes[guest] = place;
            tryPlaces(guest + 1, used | 1 << place);
        }

        /** Guests who pass their places round among them: each such round saves one swap. */
        private int roundsOfTakes() {
            int rounds = 0;
            int passed = 0;
            for (int first = 0; first < tray.cups; first++) {
                if ((passed >> first & 1) == 0) {
                    rounds++;
                }
                int guest = first;
                for (int i = 0; i < MOST_CUPS && (passed >> guest & 1) == 0; i++) {
                    passed |= 1 << guest;
                    guest = holderOfTaken(guest);
                }
            }
            return rounds;
        }

        private int holderOfTaken(int guest) {
            int place = guest >= 0 && guest < takes.length ? takes[guest] : NONE;
            return tray.hasPlace(place) ? holders[place] : 0;
        }

        void findBest() {
            weighPlaces();
            int every = (1 << tray.cups) - 1;
            for (int used = Math.min(every, least.length - 1); used >= 0; used--) {
                int guest = Integer.bitCount(used);
                least[used] = guest >= tray.cups ? 0 : meanWith(guest, used, firstBest(guest, used));
            }
            int used = 0;
            for (int guest = 0; guest < tray.cups && guest < bestPlaces.length; guest++) {
                bestPlaces[guest] = firstBest(guest, used);
                used |= 1 << bestPlaces[guest];
            }
        }

        private void weighPlaces() {
            for (int guest = 0; guest < MOST_CUPS; guest++) {
                for (int place = 0; place < MOST_CUPS; place++) {
                    weights[guest * MOST_CUPS + place] = tray.mindOf(guest) * wrongWorlds(guest, place);
                }
            }
        }

        /** Of the places not used the first with which this guest and all behind mind least. */
        private int firstBest(int guest, int used) {
            int found = NONE;
            for (int place = 0; place < tray.cups; place++) {
                if ((used >> place & 1) == 0 && (found == NONE
                        || meanWith(guest, used, place) < meanWith(guest, used, found))) {
                    found = place;
                }
            }
            return found;
        }

        private int meanWith(int guest, int used, int place) {
            int weight = guest * MOST_CUPS + place;
            int rest = used | 1 << place;
            if (weight < 0 || weight >= weights.length || rest < 0 || rest >= least.length) {
                return 0;
            }
            return weights[weight] + least[rest];
        }

        int leastMean() {
            return least[0];
        }

        int bestPlaceOf(int guest) {
            return guest >= 0 && guest < bestPlaces.length ? bestPlaces[guest] : 0;
        }

        int guestWhoMindsMost() {
            int most = 0;
            for (int guest = 1; guest < tray.cups; guest++) {
                if (tray.mindOf(guest) > tray.mindOf(most)) {
                    most = guest;
                }
            }
            return most;
        }
    }

    /** What tellers say to try next. */
    static final class Tellers {
        private static final int[] ABOVE = {NONE, TELLER, TELLER, MIXER, SIGNER, MIXER};

        private final Tray tray;
        private final Worlds worlds;
        private final Questions questions;
        private final Handings handings;

        Tellers(Tray tray, Worlds worlds, Questions questions, Handings handings) {
            this.tray = tray;
            this.worlds = worlds;
            this.questions = questions;
            this.handings = handings;
        }

        static boolean isKind(int kind) {
            return kind >= 0 && kind < ABOVE.length;
        }

        /** Whether a kind is another, or stands under it. */
        static boolean isUnder(int kind, int other) {
            int at = kind;
            for (int i = 0; i < ABOVE.length && isKind(at); i++) {
                if (at == other) {
                    return true;
                }
                at = ABOVE[at];
            }
            return false;
        }

        int sayingOf(int teller) {
            // with one world all is known and every split is 1, so none has more to say
            if (worlds.possibleCount <= 1) {
                return NONE;
            }
            switch (tray.kindOf(teller)) {
                case TELLER:
                    return firstUnknown(tray.tellerNumberOf(teller) % KINDS);
                case TURNER:
                    return mostShades();
                case MIXER:
                    return firstUnknown(SIP);
                case SIGNER:
                    return questions.nextOf(ALL_LOOKS);
                case SIPPER:
                    return lookOrSip();
                case HANDER:
                    return sipOfWhoMindsMost();
                default:
                    return NONE;
            }
        }

        private int firstUnknown(int kind) {
            for (int place = 0; place < tray.cups; place++) {
                if (!worlds.isKnown(place)) {
                    return 10 * place + kind;
                }
            }
            return NONE;
        }

        private int mostShades() {
            int found = NONE;
            int most = 1;
            for (int place = 0; place < tray.cups; place++) {
                int split = questions.splitOf(place, SHADE);
                if (split > most) {
                    most = split;
                    found = 10 * place + SHADE;
                }
            }
            return found;
        }

        private int lookOrSip() {
            int look = questions.nextOf(ALL_LOOKS);
            if (questions.worstOf(look / 10, look % 10) < worlds.possibleCount) {
                return look;
            }
            return questions.nextOf(SIP_ALONE);
        }

        private int sipOfWhoMindsMost() {
            handings.findBest();
            int place = handings.bestPlaceOf(handings.guestWhoMindsMost());
            return worlds.isKnown(place) ? firstUnknown(SIP) : 10 * place + SIP;
        }
    }

    /** Shelves with rows and tellers; what a shelf holds is told as holds() tells it. */
    static final class Shelves {
        static final int FIRST_TELLER = 10;
        private static final int ROOM = 8;
        private static final int ROW_SORTS = 5;
        private static final int MOST_ELEMENTS = 40;

        private final int[] things = new int[ROOM];
        private final int[] sizes = new int[ROOM];
        private final long[] elements = new long[ROOM * MOST_ELEMENTS];

        Shelves() {
            Arrays.fill(things, NONE);
        }

        static boolean isShelf(int s) {
            return s >= 0 && s < ROOM;
        }

        static boolean isSort(int sort) {
            return sort >= 0 && sort < ROW_SORTS;
        }

        static boolean isSize(int n) {
            return n >= 0 && n <= MOST_ELEMENTS;
        }

        int thingOf(int s) {
            return isShelf(s) ? things[s] : NONE;
        }

        private boolean hasRow(int s) {
            return s >= 0 && s < ROOM && things[s] >= 0 && things[s] < ROW_SORTS;
        }

        int faultOfRow(int s) {
            if (!isShelf(s)) {
                return BAD;
            }
            if (hasRow(s)) {
                return FINE;
            }
            return things[s] == NONE ? NOTHING : OTHER;
        }

        int faultOfPair(int p, int q) {
            if (!isShelf(p) || !isShelf(q)) {
                return BAD;
            }
            boolean isMissing = things[p] == NONE || things[q] == NONE;
            boolean isOther = things[p] >= FIRST_TELLER || things[q] >= FIRST_TELLER;
            if (isOther || !isMissing && things[p] != things[q]) {
                return OTHER;
            }
            return isMissing ? NOTHING : FINE;
        }

        boolean hasElement(int s, int i) {
            return hasRow(s) && i >= 0 && i < sizes[s] && i < MOST_ELEMENTS;
        }

        boolean hasElements(int s, int from, int n) {
            return hasRow(s) && from >= 0 && n >= 0 && n <= sizes[s] && from <= sizes[s] - n;
        }

        void putRow(int s, int sort, int n) {
            if (!isShelf(s)) {
                return;
            }
            things[s] = sort;
            sizes[s] = n;
            int first = s * MOST_ELEMENTS;
            for (int i = first; i < first + MOST_ELEMENTS; i++) {
                elements[i] = 0;
            }
        }

        void putTeller(int s, int teller) {
            if (isShelf(s)) {
                things[s] = teller == NONE ? NONE : FIRST_TELLER + teller;
            }
        }

        void putElement(int s, int i, long v) {
            if (hasElement(s, i)) {
                elements[s * MOST_ELEMENTS + i] = cutTo(things[s], v);
            }
        }

        private static long cutTo(int sort, long v) {
            switch (sort) {
                case 0:
                    return (byte) v;
                case 1:
                    return (short) v;
                case 2:
                    return (int) v;
                case 3:
                    return v;
                default:
                    return v != 0 ? 1 : 0;
            }
        }

        long elementOf(int s, int i) {
            return hasElement(s, i) ? elements[s * MOST_ELEMENTS + i] : 0;
        }

        void copyElements(int p, int q, int i, int j, int n) {
            if (hasElements(p, i, n) && hasElements(q, j, n)) {
                System.arraycopy(elements, p * MOST_ELEMENTS + i,
                        elements, q * MOST_ELEMENTS + j, n);
            }
        }

        void dropTellersFrom(int teller) {
            for (int s = 0; s < ROOM; s++) {
                if (things[s] >= FIRST_TELLER + teller) {
                    things[s] = NONE;
                }
            }
        }

        int howManyHold() {
            int many = 0;
            for (int s = 0; s < ROOM; s++) {
                if (things[s] != NONE) {
                    many++;
                }
            }
            return many;
        }
    }

    /** The tape, and the statements of a stair read from it into the tray. */
    static final class Tape {
        private static final int ROOM = 250;
        private static final int BLANK = 32;
        private static final int MOST_DIGITS = 2;

        private static final int END = 0;
        private static final int WORD = 1;
        private static final int NUMBER = 2;
        private static final int BETWEEN = 3;
        private static final int UNKNOWN = 4;

        int size = 0;
        int fault = 0;
        private final Tray tray;
        private final Worlds worlds;
        private final int[] bytes = new int[ROOM];
        private final int[] sorts = new int[MOST_CUPS];
        private int at = 0;
        private int token = END;
        private int start = 0;
        private int value = NONE;

        Tape(Tray tray, Worlds worlds) {
            this.tray = tray;
            this.worlds = worlds;
        }

        boolean put(int letter) {
            if (size < 0 || size >= bytes.length) {
                return false;
            }
            bytes[size] = letter;
            size++;
            return true;
        }

        /** How many statements there are; NONE, and the fault, if it is no stair. */
        int readStatements() {
            at = 0;
            fault = 0;
            for (int statements = 1; statements <= ROOM; statements++) {
                readToken();
                if (!readStatement()) {
                    return NONE;
                }
                readToken();
                if (token == END) {
                    return statements;
                }
                if (token != BETWEEN) {
                    fault = start;
                    return NONE;
                }
            }
            return NONE;
        }

        private int byteAt(int i) {
            return i >= 0 && i < size && i < bytes.length ? bytes[i] : NONE;
        }

        private static boolean isLetter(int c) {
            return c >= 'a' && c <= 'z';
        }

        private static boolean isDigit(int c) {
            return c >= '0' && c <= '9';
        }

        private void readToken() {
            while (at < size && byteAt(at) == BLANK) {
                at++;
            }
            start = at;
            int c = byteAt(at);
            if (c == NONE) {
                token = END;
            } else if (isLetter(c)) {
                token = WORD;
                while (at < size && isLetter(byteAt(at))) {
                    at++;
                }
            } else if (isDigit(c)) {
                token = NUMBER;
                value = 0;
                while (at < size && isDigit(byteAt(at))) {
                    value = at - start < MOST_DIGITS ? value * 10 + byteAt(at) - '0' : NONE;
                    at++;
                }
            } else {
                token = c == ';' ? BETWEEN : UNKNOWN;
                at++;
            }
        }

        private boolean isToken(String word) {
            if (token != WORD || at - start != word.length()) {
                return false;
            }
            for (int i = 0; i < word.length(); i++) {
                if (byteAt(start + i) != word.charAt(i)) {
                    return false;
                }
            }
            return true;
        }

        private boolean failAt(int place) {
            fault = place;
            return false;
        }

        private boolean readStatement() {
            if (isToken("cups")) {
                return readCups();
            }
            if (isToken("pour")) {
                return readPour();
            }
            if (isToken("law")) {
                return readLaw();
            }
            if (isToken("sort")) {
                return readSort();
            }
            if (isToken("guest")) {
                return readGuest();
            }
            if (isToken("sign")) {
                return readSign();
            }
            return failAt(start);
        }

        /** The number that the next token is; NONE, and the fault, if it may not be. */
        private int readNumber(int from, int to) {
            readToken();
            if (token != NUMBER || value < from || value > to) {
                fault = start;
                return NONE;
            }
            return value;
        }

        private boolean readCups() {
            int n = readNumber(LEAST_CUPS, MOST_CUPS);
            if (n == NONE) {
                return false;
            }
            tray.layCups(n);
            return true;
        }

        private boolean readPour() {
            for (int place = 0; place < tray.cups && place < sorts.length; place++) {
                int sort = readNumber(0, SORTS - 1);
                if (sort == NONE) {
                    return false;
                }
                sorts[place] = sort;
            }
            tray.pourRow(sorts);
            return true;
        }

        private boolean readLaw() {
            int v = readNumber(FIXED, MIXED);
            if (v == NONE) {
                return false;
            }
            tray.setLaw(v);
            return true;
        }

        private boolean readSort() {
            int sort = readNumber(0, SORTS - 1);
            if (sort == NONE) {
                return false;
            }
            for (int look = 0; look < LOOKS; look++) {
                int number = readNumber(0, MOST_NUMBER);
                if (number == NONE) {
                    return false;
                }
                tray.setNumber(sort, look, number);
            }
            return true;
        }

        private boolean readGuest() {
            int guest = readNumber(0, tray.cups - 1);
            int sort = guest == NONE ? NONE : readNumber(0, SORTS - 1);
            int minded = sort == NONE ? NONE : readNumber(0, MOST_NUMBER);
            if (minded == NONE) {
                return false;
            }
            tray.setGuest(guest, sort, minded);
            return true;
        }

        private boolean readSign() {
            int word = start;
            int place = readNumber(0, tray.cups - 1);
            int kind = place == NONE ? NONE : readNumber(0, KINDS - 1);
            int number = kind == NONE ? NONE : readNumber(0, MOST_NUMBER);
            if (number == NONE) {
                return false;
            }
            worlds.refresh();
            if (worlds.howManyHave(place, kind, number) == 0) {
                return failAt(start);
            }
            return tray.learn(place, kind, number) || failAt(word);
        }
    }
}
