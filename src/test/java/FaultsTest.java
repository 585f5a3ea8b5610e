/**
 * Promise 19: where a stair's fault is. In the texts a ^ stands ahead of the first byte of the token
 * that can't stand there (the ^ is not fed). Behind a fault all is as it was, but THE TAPE is empty
 * and one more is BAD.
 */
public final class FaultsTest {
    private static final Due DUE = new Due();

    public static void main(String[] args) {
        DUE.promise(19);
        firstBytes();
        bytesForNumbers();
        bytesBehindStatements();
        bytesBetween();
        words();
        numbersOfTwoDigits();
        statements();
        cups();
        pour();
        laws();
        sorts();
        guests();
        signs();
        signsThatNoneHas();
        signsKnown();
        endsTooEarly();
        allOrNothing();
        longest();
        DUE.end();
    }

    private static TheOneWithout wiped(int n) {
        TheOneWithout x = Scenes.full(n);
        x.wipe();
        return x;
    }

    private static void fault(int n, String text) {
        int mark = text.indexOf('^');
        if (mark < 0 || text.indexOf('^', mark + 1) >= 0) {
            throw new IllegalStateException("one ^ in " + text);
        }
        TheOneWithout x = wiped(n);
        String word = "stair of " + n + " cups: " + text;
        DUE.is(word, Due.stair(x, text.substring(0, mark) + text.substring(mark + 1)), -20 - mark);
        DUE.is(word + ", THE TAPE", x.status(5), 0);
        DUE.isLikeTwin(word, x, wiped(n), -2);
    }

    private static void fault(String text) {
        fault(4, text);
    }

    /** A stair of so many statements. */
    private static TheOneWithout fine(int n, String text, int statements) {
        TheOneWithout x = wiped(n);
        String word = "stair of " + n + " cups: " + text;
        DUE.is(word, Due.stair(x, text), statements);
        DUE.is(word + ", THE TAPE", x.status(5), 0);
        DUE.is(word + ", BAD", x.status(12), 1);
        return x;
    }

    private static TheOneWithout fine(String text, int statements) {
        return fine(4, text, statements);
    }

    private static void firstBytes() {
        for (char c = 0; c < 256; c++) {
            if (c == ' ') {
                fault(" ^");
                fault("law 1; ^");
            } else {
                plainFault("", c, "");
                plainFault("law 1;", c, "");
            }
        }
    }

    /** A fault at the byte between the two texts, also if that is a ^. */
    private static void plainFault(String ahead, char c, String behind) {
        TheOneWithout x = wiped(4);
        DUE.is("stair: " + ahead + "(byte " + (int) c + ")" + behind,
                Due.stair(x, ahead + c + behind), -20 - ahead.length());
        DUE.is("BAD", x.status(12), 2);
    }

    private static void bytesForNumbers() {
        for (char c = 0; c < 256; c++) {
            if (c == ' ') {
                fault("law  ^");
            } else if (c >= '0' && c <= '2') {
                DUE.is("law " + c, fine("law " + c, 1).status(1), c - '0');
            } else {
                plainFault("law ", c, "");
            }
        }
    }

    private static void bytesBehindStatements() {
        for (char c = 0; c < 256; c++) {
            if (c == ' ') {
                fine("law 1 ", 1);
            } else if (c == ';') {
                fault("law 1;^");
            } else if (c >= '0' && c <= '9') {
                fault("law ^1" + c);
            } else {
                plainFault("law 1", c, "");
            }
        }
    }

    private static void bytesBetween() {
        for (char c = 0; c < 256; c++) {
            if (c == ' ' || c == '0') {
                fine("law" + c + "1", 1);
            } else if (c >= 'a' && c <= 'z') {
                fault("^law" + c + "1");
            } else {
                plainFault("law", c, "1");
            }
        }
    }

    /** A word is as long as can be, and no other word will do. */
    private static void words() {
        String[] words = {"cups", "pour", "law", "sort", "guest", "sign"};
        String numbers = " 2 1 1 1";
        for (String word : words) {
            int last = word.length() - 1;
            fault("^" + word + "s" + numbers);
            fault("^s" + word + numbers);
            fault("^" + word.substring(0, last) + numbers);
            fault("^" + word.substring(1) + numbers);
            fault("^" + word.substring(0, last) + " " + word.charAt(last) + numbers);
            for (int i = 0; i <= last; i++) {
                char other = word.charAt(i) == 'z' ? 'a' : (char) (word.charAt(i) + 1);
                fault("^" + word.substring(0, i) + other + word.substring(i + 1) + numbers);
                char capital = Character.toUpperCase(word.charAt(i));
                fault("^" + word.substring(0, i) + capital + word.substring(i + 1) + numbers);
            }
        }
    }

    private static void numbersOfTwoDigits() {
        for (int v = 0; v <= 2; v++) {
            DUE.is("law 0" + v, fine("law 0" + v, 1).status(1), v);
            fault("law ^00" + v);
            fault("law ^" + (v + 256));
            fault("law ^" + ((1L << 32) + v));
            fault("law ^" + v + "00000000000000000000");
        }
        fine("cups 06", 1);
        fault("cups ^07");
        fault("cups ^006");
        fault("cups ^10");
        fault("cups ^99");
        fault("cups ^100");
        fault("cups ^258");
        fine("sort 05 09 00 08", 1);
        fault("sort 05 09 00 ^008");
        fault("sort 05 09 ^10");
        fault("pour 00 01 02 ^0003");
        fault("pour 0 1 2 ^34");
        fault("guest ^000 1 1");
        fault("sign 1 3 ^001");
    }

    /** One or more, with a ; between. */
    private static void statements() {
        fine("law 1", 1);
        fine("law 1;law 2", 2);
        fine("law 1 ; law 2 ;law 0", 3);
        fine("   law   1   ;   law   2   ", 2);
        fine("law1;law2;law0", 3);
        fine("cups2;pour0 1;sort0 1 2 3;guest1 5 9;law2;sign1 3 1", 6);
        fault("^;");
        fault("^;law 1");
        fault("law 1;^;");
        fault("law 1;^;law 1");
        fault("law 1;  ^;law 1");
        fault("law 1 ^law 1");
        fault("law 1^law 1");
        fault("law 1 ^1");
        fault("law 1 ; law 1 ^1 ; law 1");
        fault("law ^law 1");
        fault("^1 law");
        fault("law 1;^1");
        fault("law 1^,law 1");
    }

    /** The stair does what the calls do, and nothing else. */
    private static void does(int n, String text, int statements, Due.Call calls) {
        TheOneWithout x = fine(n, text, statements);
        TheOneWithout twin = wiped(n);
        calls.on(twin);
        DUE.isLikeTwin("stair of " + n + " cups: " + text, x, twin, 0);
    }

    private static void does(String text, Due.Call calls) {
        does(4, text, 1, calls);
    }

    private static long poured(TheOneWithout x, long... row) {
        int held = x.holds(Scenes.WRONG);
        Due.row(x, Scenes.WRONG, held, row);
        long worlds = x.pour(Scenes.WRONG);
        Due.row(x, Scenes.WRONG, held, new long[4]);
        return worlds;
    }

    private static void cups() {
        for (int n = 2; n <= 6; n++) {
            int cups = n;
            does("cups " + n, x -> x.cups(cups));
        }
        fault("cups ^1");
        fault("cups ^7");
        fault("cups ^0");
        fault("cups 3 ^3");
    }

    private static void pour() {
        does("pour 0 5 0 5", x -> poured(x, 0, 5, 0, 5));
        does("pour 1 2 3 4", x -> poured(x, 1, 2, 3, 4));
        String numbers = "";
        for (int n = 1; n <= 6; n++) {
            numbers = numbers + " " + (6 - n);
            if (n >= 2) {
                TheOneWithout x = fine(n, "pour" + numbers, 1);
                DUE.is("stands of the last", x.stands(n - 1), 6 - n);
                DUE.is("unlike SORTS POURED", x.status(4), n);
                fault(n, "pour" + numbers + " ^0");
                fault(n, "pour" + numbers + ";^0");
                fault(n, "pour" + numbers.substring(0, numbers.length() - 1) + "^6");
            }
            if (n <= 5) {
                fault(n + 1, "pour" + numbers + "^");
                fault(n + 1, "pour" + numbers + " ^;law 1");
            }
        }
        fine("cups 2;pour 1 0;cups 5;pour 1 0 1 0 1;cups 3;pour 0 1 2", 6);
        fault("cups 2;pour 1 0 ^1");
        fault("cups 5;pour 1 0 1 0 ^;law 1");
        fault("pour ^6 0 0 0");
        fault("pour 0 0 ^6 0");
    }

    private static void laws() {
        for (int v = 0; v <= 2; v++) {
            int law = v;
            does("law " + v, x -> x.law(law));
        }
        fault("law ^3");
        fault("law ^9");
    }

    private static void sorts() {
        does("sort 0 9 8 7", x -> x.sort(0, 0, 9) + x.sort(0, 1, 8) + x.sort(0, 2, 7));
        does("sort 5 0 1 2", x -> x.sort(5, 0, 0) + x.sort(5, 1, 1) + x.sort(5, 2, 2));
        fault("sort ^6 0 0 0");
        fault("sort 5 ^10 0 0");
        fault("sort 5 9 ^10 0");
        fault("sort 5 9 9 ^10");
        fault("sort 5 9 9 9 ^9");
    }

    private static void guests() {
        for (int n = 2; n <= 6; n++) {
            int last = n - 1;
            does(n, "guest " + last + " 5 9", 1, x -> x.guest(last, 5, 9));
            does(n, "guest 0 0 0", 1, x -> x.guest(0, 0, 0));
            fault(n, "guest ^" + n + " 0 0");
        }
        fault("guest 3 ^6 0");
        fault("guest 3 5 ^10");
        fault("guest 3 5 9 ^9");
        fault("guest 3 ^-1 0");
        fault("cups 2;guest ^2 0 0");
        fine("cups 6;guest 5 0 0", 2);
    }

    private static void signs() {
        does("sign 2 3 0", x -> x.sign(2, 3, 0));
        does("sign 2 0 7", x -> x.sign(2, 0, 7));
        does("sign 2 1 1", x -> x.sign(2, 1, 1));
        does("sign 2 2 5", x -> x.sign(2, 2, 5));
        does(4, "sign 2 0 3;sign 3 1 1;sign 2 3 1", 3,
                x -> x.sign(2, 0, 3) + x.sign(3, 1, 1) + x.sign(2, 3, 1));
        for (int n = 2; n <= 6; n++) {
            int last = n - 1;
            does(n, "sign " + last + " 2 5", 1, x -> x.sign(last, 2, 5));
            fault(n, "sign ^" + n + " 2 5");
        }
        fault("sign 1 ^4 0");
        for (int kind = 0; kind < 3; kind++) {
            fault("sign 1 " + kind + " ^10");
        }
        fault("sign 1 3 ^6");
        fault("sign 1 3 ^9");
        fault("sign 1 2 5 ^5");
        fault("cups 2;sign ^2 2 5");
    }

    private static void signsThatNoneHas() {
        fault("sign 2 0 ^0");
        fault("sign 2 3 ^5");
        fault("sign 2 0 ^0 0");
        fault("sign 2 3 1;sign 3 3 1;sign 1 3 ^1");
        fault("cups 2;pour 0 1;law 0;sign 0 3 ^1");
        fine("cups 2;pour 0 1;law 1;sign 0 3 1", 4);
        fault("sort 0 0 0 0;cups 2;pour 0 0;sign 0 0 ^3");
        fine("sort 0 3 0 0;cups 2;pour 0 0;sign 0 0 3", 4);
        fault("cups 2;pour 0 1;law 2;sign 0 3 1;law 0;sign 1 3 ^0");
        fine("cups 2;pour 0 1;law 2;sign 0 3 1;cups 2;sign 1 3 0", 6);
    }

    /** Each once; known with another number, no possible world has it. */
    private static void signsKnown() {
        TheOneWithout x = fine("sign 2 3 0;sign 2 3 0", 2);
        DUE.is("SIGNS", x.status(3), 3);
        fault("sign 2 3 0;sign 2 3 ^1");
        x = Scenes.fullOfSigns();
        x.wipe();
        String known = "sign 0 2 " + x.look(0, 2) + ";sign 5 3 " + x.look(5, 3);
        DUE.is("known already, though there are 24", Due.stair(x, known), 2);
        DUE.is("SIGNS", x.status(3), 24);
        DUE.is("none has another", Due.stair(x, known + ";sign 5 0 8"), -20 - 31);
        DUE.is("SIGNS", x.status(3), 24);
    }

    /** Behind each token but the last of each statement: the end, or a ; that can't stand there. */
    private static void endsTooEarly() {
        String[] texts = {"cups 3", "pour 1 2 0 1", "law 2", "sort 1 2 3 4", "guest 1 2 3",
            "sign 2 2 5"};
        fault("^");
        fault("   ^");
        for (String text : texts) {
            for (int end = text.indexOf(' '); end >= 0; end = text.indexOf(' ', end + 1)) {
                String ahead = text.substring(0, end);
                fault(ahead + "^");
                fault(ahead + "  ^");
                fault(ahead + "^;");
                fault(ahead + " ^;" + text);
                fault(ahead + " ^law" + text.substring(end));
                fault(text + ";" + ahead + "^");
            }
            fault(text + ";^");
            fault(text + " ; ^");
            fine(text, 1);
        }
    }

    private static void allOrNothing() {
        String all = "law 0;sort 1 1 1 1;guest 0 3 9;sort 2 4 4 4;cups 6;pour 5 5 4 4 3 3;"
                + "law 2;sign 0 3 3;guest 5 5 5;cups 2;pour 3 4;sign 1 3 3;guest 1 4 8";
        fine(all, 13);
        fault(all + "^?");
        fault(all + ";^");
        fault(all + ";law ^3");
        fault(all + ";pour 1 ^6");
        fault(all + ";sign 0 3 ^3");
        fault(6, "guest 5 4 0;sort 5 1 2 3;pour 0 1 2 3 4 5;law 1;sign 5 3 4;cups 2^?");
        fault(2, "guest 1 4 0;cups 6;guest 5 4 9;pour 0 1 2 3 4 5;sign 5 3 4^?");
        fault("guest 0 3 ^x");
        fault("guest 0 ^x");
        fault("sort 0 1 2 ^x");
        fault("sort 0 1 ^x");
        fault("pour 2 2 2 ^x");
        fault("cups 6;pour 2 2 2 2 2 ^x");
        fault("sign 2 0 7;sign 3 ^4");
    }

    /** 250 bytes are fed, so that these are looked at less closely: 512 calls are all there are. */
    private static void longest() {
        StringBuilder b = new StringBuilder("law 0");
        int statements = 1;
        while (b.length() + 6 <= 250) {
            b.append(";law 2");
            statements++;
        }
        longest(b.toString(), statements);
        while (b.length() < 250) {
            b.append(' ');
        }
        longest(b.toString(), statements);
        longest(b.substring(0, 249) + ";^", 0);
        longest("law" + " ".repeat(246) + "2", 1);
        String blanks = " ".repeat(249);
        longest(blanks + "^x", 0);
        longest(blanks + "^;", 0);
        longest(blanks + " ^", 0);
        longest("^" + "z".repeat(250), 0);
        longest("law ^" + "0".repeat(246), 0);
    }

    private static void longest(String text, int statements) {
        TheOneWithout x = new TheOneWithout();
        int mark = text.indexOf('^');
        DUE.is("stair: " + text, Due.stair(x, text.replace("^", "")),
                mark < 0 ? statements : -20 - mark);
        DUE.is("LAW behind " + text, x.status(1), mark < 0 ? 2 : 1);
        DUE.is("THE TAPE behind " + text, x.status(5), 0);
        DUE.is("BAD behind " + text, x.status(12), mark < 0 ? 0 : 1);
    }
}
