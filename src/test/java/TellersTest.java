/** Promises 34 and 38: what tellers say, and tries in truth by them. */
public final class TellersTest {
    private static final Due DUE = new Due();

    public static void main(String[] args) {
        tellsOfTeller();
        tellsOfTurner();
        tellsOfMixer();
        tellsOfSigner();
        tellsOfSipper();
        tellsOfHander();
        eachKindAtEachPlace();
        lastGuestsAndPlaces();
        oneOrNonePossible();
        tellsRefused();
        tries();
        triesThatEnd();
        triesOfWhatIsKnown();
        triesWithManySigns();
        DUE.end();
    }

    private static TheOneWithout with(int kind, int a, String text) {
        TheOneWithout x = Due.tray(text);
        x.teller(kind, a);
        return x;
    }

    private static void tellsOfTeller() {
        DUE.promise(34);
        for (int a = 0; a < 10; a++) {
            TheOneWithout x = with(0, a, "cups 3;law 2;pour 0 1 2");
            DUE.is("the first place, " + a, x.tells(0), a % 4);
            Due.stair(x, "sign 0 3 2");
            DUE.is("the first not known, " + a, x.tells(0), 10 + a % 4);
        }
    }

    private static void tellsOfTurner() {
        DUE.promise(34);
        TheOneWithout x = with(1, 3, "cups 4;law 2;pour 0 1 2 0");
        DUE.is("all shades alike", x.tells(0), -1);
        Due.stair(x, "sort 1 1 0 0;sort 2 2 0 0");
        DUE.is("the first of several", x.tells(0), 0);
        Due.stair(x, "sign 0 0 2");
        DUE.is("of more than one", x.tells(0), 10);
        x = with(1, 3, "cups 4;law 2;pour 0 1 2 3;sort 0 1 1 0;sort 1 1 1 0;sort 2 2 1 0;"
                + "sort 3 3 2 0;sign 0 1 1;sign 1 1 1");
        DUE.is("the greatest", x.tells(0), 20);
    }

    private static void tellsOfMixer() {
        DUE.promise(34);
        TheOneWithout x = with(2, 1, "cups 3;law 2;pour 0 1 2");
        DUE.is("the first", x.tells(0), 3);
        Due.stair(x, "sign 0 3 1");
        DUE.is("the second", x.tells(0), 13);
        Due.stair(x, "cups 3;pour 0 1 2;sign 1 3 1");
        DUE.is("the first", x.tells(0), 3);
    }

    private static void tellsOfSigner() {
        DUE.promise(34);
        TheOneWithout x = with(3, 1, "cups 3;law 2;pour 0 1 2;sort 1 0 0 7;sort 2 0 0 8");
        DUE.is("HEAT, and no sip", x.tells(0), 2);
        Due.stair(x, "sign 0 2 0");
        DUE.is("HEAT of the next", x.tells(0), 12);
        DUE.is("nothing tells: the first", with(3, 1, "cups 3;law 2;pour 0 1 2").tells(0), 0);
    }

    private static void tellsOfSipper() {
        DUE.promise(34);
        TheOneWithout x = with(4, 1, "cups 3;law 2;pour 0 1 2;sort 2 0 5 0");
        DUE.is("as a signer", x.tells(0), 1);
        Due.stair(x, "sign 0 1 5");
        DUE.is("no look tells", x.tells(0), 13);
        x = with(4, 1, "cups 3;law 2;pour 0 1 2");
        DUE.is("a sip", x.tells(0), 3);
        x = with(4, 1, "cups 4;law 1;pour 0 0 1 0");
        Due.stair(x, "sign 0 3 0");
        DUE.is("the best sip", x.tells(0), 13);
    }

    private static void tellsOfHander() {
        DUE.promise(34);
        String guests = "cups 3;law 2;pour 0 1 1;guest 0 1 2;guest 1 1 2;guest 2 0 9";
        TheOneWithout x = with(5, 1, guests);
        DUE.is("who minds most gets place 2", x.tells(0), 23);
        Due.stair(x, "sign 2 3 1");
        DUE.is("the first row of the best gives place 1", x.tells(0), 13);
        x = with(5, 1, "cups 3;law 2;pour 0 1 2;guest 0 0 9;sign 1 3 0");
        DUE.is("best(0)", x.best(0), 1);
        DUE.is("known: as a mixer", x.tells(0), 3);
        x = with(5, 1, "cups 3;law 2;pour 0 1 2;guest 1 1 9;guest 2 2 9");
        DUE.is("of several the first", x.tells(0), 13);
        x = with(5, 1, "cups 3;law 2;pour 0 1 2");
        DUE.is("none minds: the first", x.tells(0), 3);
    }

    /** All places ahead are known, and one kind of looks alone tells more. */
    private static void eachKindAtEachPlace() {
        DUE.promise(34);
        String[] numbers = {"1 0 0", "0 1 0", "0 0 1"};
        for (int place = 0; place < 5; place++) {
            StringBuilder text = new StringBuilder("cups 6;law 2;pour 0 1 2 3 4 5");
            for (int ahead = 0; ahead < place; ahead++) {
                text.append(";sign ").append(ahead).append(" 3 ").append(ahead);
            }
            DUE.is("a mixer", with(2, 0, text.toString()).tells(0), 10 * place + 3);
            DUE.is("a sipper of alike looks", with(4, 0, text.toString()).tells(0),
                    10 * place + 3);
            DUE.is("a signer of alike looks", with(3, 0, text.toString()).tells(0), 0);
            DUE.is("a turner of alike looks", with(1, 0, text.toString()).tells(0), -1);
            for (int kind = 0; kind < 3; kind++) {
                String told = text + ";sort 5 " + numbers[kind];
                int due = 10 * place + kind;
                DUE.is("a teller", with(0, kind + 4, told).tells(0), due);
                DUE.is("a turner", with(1, 0, told).tells(0), kind == 0 ? due : -1);
                DUE.is("a signer", with(3, 0, told).tells(0), due);
                DUE.is("a sipper", with(4, 0, told).tells(0), due);
            }
        }
    }

    /** Who minds most is the last guest; so the first guests get the places that are wrong. */
    private static void lastGuestsAndPlaces() {
        DUE.promise(34);
        for (int n = 3; n <= 6; n++) {
            TheOneWithout x = new TheOneWithout();
            x.cups(n);
            x.law(2);
            Due.row(x, 0, 0, 0, 1, 2, 3, 4, 5);
            x.pour(0);
            x.teller(5, 0);
            for (int guest = 0; guest < n; guest++) {
                x.guest(guest, 0, guest + 4);
            }
            x.sign(n - 2, 3, 1);
            DUE.is("the first guest gets what is wrong", x.best(0), n - 2);
            DUE.is("the last guest gets the last place", x.best(n - 1), n - 1);
            DUE.is("a hander", x.tells(0), 10 * (n - 1) + 3);
            x.sign(0, 3, 2);
            DUE.is("the last guest gets the last place", x.best(n - 1), n - 1);
            DUE.is("a hander, or all is known", x.tells(0), n > 3 ? 10 * (n - 1) + 3 : -1);
            x.forget();
            x.sign(n - 1, 3, 0);
            DUE.is("the last guest gets what is right", x.best(n - 1), n - 1);
            DUE.is("that is known: as a mixer", x.tells(0), 3);
            x.forget();
            x.sign(n - 1, 3, 1);
            x.guest(0, -1, 9);
            x.guest(n - 1, 0, 9);
            DUE.is("who takes any", x.best(0), n - 1);
            DUE.is("and minds as much, is the first: known", x.tells(0), 3);
        }
    }

    private static void oneOrNonePossible() {
        DUE.promise(34);
        for (int kind = 0; kind < 6; kind++) {
            TheOneWithout x = with(kind, 1, "cups 3;law 2;pour 0 1 2;sort 1 1 2 3;sort 2 2 3 4;"
                    + "sign 0 3 1;sign 1 3 0");
            DUE.is("one is possible, " + kind, x.tells(0), -1);
            x.law(0);
            DUE.is("none is possible, " + kind, x.tells(0), -1);
            DUE.is("NONE isn't refused", x.status(12) + x.status(15), 0);
        }
    }

    private static void tellsRefused() {
        DUE.promise(34);
        TheOneWithout x = new TheOneWithout();
        DUE.refused(x, "tells(0)", x.tells(0), -2, 1);
        x.teller(0, 0);
        x.teller(0, 0);
        DUE.refused(x, "tells(2)", x.tells(2), -2, 2);
        DUE.refused(x, "tells(-1)", x.tells(-1), -2, 3);
        DUE.is("tells(1)", x.tells(1), -1);
    }

    private static void tries() {
        DUE.promise(38);
        TheOneWithout x = with(2, 0, "cups 5;law 2;pour 0 1 2 3 4");
        DUE.is("all but the last sipped", x.tries(0), 4);
        DUE.is("status(3)", x.status(3), 4);
        DUE.is("worlds(1)", x.worlds(1), 1);
        DUE.is("world(0, 4)", x.world(0, 4), 4);
        DUE.is("it is known", x.tries(0), 0);
        DUE.is("turned: one sip", with(2, 0, "cups 5;law 1;pour 0 1 2 3 4").tries(0), 1);
        DUE.is("turned: sips up to the odd one", with(2, 0, "law 1;pour 0 0 1 0 0").tries(0), 3);
        DUE.is("at the first", with(2, 0, "law 1;pour 1 0 0 0 0").tries(0), 1);
        DUE.is("at the last it is known", with(2, 0, "law 1;pour 0 0 0 0 1").tries(0), 4);
        x = with(3, 0, "cups 3;law 2;pour 0 1 2;sort 1 0 0 7;sort 2 0 0 8");
        DUE.is("a signer", x.tries(0), 2);
        DUE.is("worlds(1)", x.worlds(1), 1);
        x = with(5, 0, "cups 3;law 2;pour 0 1 2;guest 2 0 9");
        DUE.is("a hander", x.tries(0), 2);
        x = with(1, 0, "cups 3;law 2;pour 0 1 2;sort 0 3 0 0");
        DUE.is("a turner ends, when shades are known", x.tries(0), 1);
        DUE.is("worlds(1)", x.worlds(1), 2);
    }

    private static void triesThatEnd() {
        DUE.promise(38);
        TheOneWithout x = with(0, 4, "cups 3;law 2;pour 0 1 2");
        DUE.is("a teller looks but once at what tells nothing", x.tries(0), 1);
        DUE.is("status(3)", x.status(3), 1);
        DUE.is("and then no more", x.tries(0), 0);
        x = with(3, 4, "cups 3;law 2;pour 0 1 2");
        DUE.is("so does a signer", x.tries(0), 1);
        DUE.is("a sipper sips", with(4, 4, "cups 3;law 2;pour 0 1 2").tries(0), 2);
        x = with(2, 4, "cups 3;law 2;pour 0 1 2;sign 1 3 0");
        DUE.is("truth has none of the possible", x.tries(0), 1);
        DUE.is("worlds(1)", x.worlds(1), 0);
        DUE.is("none is possible", x.tries(0), 0);
        DUE.refused(x, "tries(1)", x.tries(1), -2, 1);
        DUE.refused(x, "tries(-1)", x.tries(-1), -2, 2);
    }

    /** A sign is its place and kind: what its number is in truth does not matter. */
    private static void triesOfWhatIsKnown() {
        DUE.promise(38);
        TheOneWithout x = with(0, 0, "cups 4;law 2;pour 0 1 2 3;sort 1 5 0 0;sort 2 5 0 0;"
                + "sign 0 0 5");
        DUE.is("tells(0)", x.tells(0), 0);
        DUE.is("known, though the truth is another", x.tries(0), 0);
        DUE.is("status(3)", x.status(3), 1);
        DUE.is("worlds(1)", x.worlds(1), 12);
        x = with(0, 0, "cups 4;law 2;pour 1 0 2 3;sort 1 5 0 0;sort 2 5 0 0;sign 0 0 5");
        DUE.is("it is known", x.tries(0), 0);
        DUE.is("status(3)", x.status(3), 1);
        x = with(0, 1, "cups 4;law 2;pour 1 0 2 3;sort 1 5 0 0;sort 2 5 0 0;sign 0 0 5;"
                + "sign 1 1 0");
        DUE.is("another kind, another place are not", x.tries(0), 1);
        DUE.is("status(3)", x.status(3), 3);
    }

    /** At six places there are but 24 signs, so a try has always room. */
    private static void triesWithManySigns() {
        DUE.promise(38);
        TheOneWithout x = with(2, 0, "cups 6;law 2;pour 0 1 2 3 4 5");
        for (int place = 0; place < 6; place++) {
            for (int kind = 0; kind < 3; kind++) {
                x.look(place, kind);
            }
        }
        DUE.is("status(3)", x.status(3), 18);
        DUE.is("room for all", x.tries(0), 5);
        DUE.is("status(3)", x.status(3), 23);
        DUE.is("worlds(1)", x.worlds(1), 1);
    }
}
