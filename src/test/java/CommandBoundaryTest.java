import java.util.Arrays;

/** 'Terms', on files and commands: every sentence that names a boundary case, on both its sides. */
public final class CommandBoundaryTest extends Check {
    private static final Class<?> INDEX = IndexOutOfBoundsException.class;
    private static final int LEAST = -32768, GREATEST = 32767;

    /** Every kind of command; X stands for a file, D for a digit. */
    private static final String[] KINDS = {
        "cXX", "jXXX", "+XXX", "sXX", "fDXX", "nDX", "nDDX", "nDDDX", "nDDDDX", "pXX", "lX", "xX", "?XcXX", "?XlX", "?X?XxX",
    };

    private CommandBoundaryTest() {
        super("CommandBoundaryTest");
    }

    private void taken(String text) {
        TracedBuild x = new TracedBuild();
        type(x, text);
        throwing("command '" + text + "'", null, x::command);
        due("commands with '" + text + "'", x.commands(), 1);
    }

    private void notTaken(String text) {
        TracedBuild x = new TracedBuild();
        type(x, text);
        throwing("no command '" + text + "'", IllegalArgumentException.class, x::command);
        due("commands without '" + text + "'", x.commands(), 0);
    }

    private static String plain(String kind) {
        return kind.replace('X', 'e').replace('D', '5');
    }

    private static String with(String kind, int place, char c) {
        StringBuilder text = new StringBuilder(plain(kind));
        text.setCharAt(place, c);
        return text.toString();
    }

    private void checkLetters() {
        sentence("X, Y, Z are letters a .. l");
        for (String kind : KINDS) {
            for (int place = 0; place < kind.length(); place++) {
                if (kind.charAt(place) == 'X') {
                    taken(with(kind, place, 'a'));
                    taken(with(kind, place, 'l'));
                    for (char c : new char[] {'a' - 1, 'l' + 1, 'A', 'L', 'z', '0', '1', 0, 'a' + 256, 'l' + 256, 0xFFFF}) {
                        notTaken(with(kind, place, c));
                    }
                }
            }
        }
    }

    private void checkDigits() {
        sentence("d a digit 1 .. 9");
        for (String kind : KINDS) {
            for (int place = 0; place < kind.length(); place++) {
                if (kind.charAt(place) == 'D') {
                    taken(with(kind, place, '1'));
                    taken(with(kind, place, '9'));
                    for (char c : new char[] {'0', '0' - 1, '9' + 1, 1, 9, 'a', '-', 0, '1' + 256, '9' + 256, 0x0661}) {
                        notTaken(with(kind, place, c));
                    }
                }
            }
        }
    }

    private void checkKinds() {
        sentence("cXY jXYZ +XYZ sXY fdXY nd..Y pXY lY xX ?X");
        for (String kind : KINDS) {
            taken(plain(kind));
            notTaken(plain(kind).substring(1));
            notTaken(plain(kind).substring(0, kind.length() - 1));
            notTaken(plain(kind) + "e");
            notTaken(plain(kind) + "5");
            notTaken(plain(kind) + " ");
            notTaken(" " + plain(kind));
            notTaken("e" + plain(kind));
        }
        for (char c = 0; c < 600; c++) {
            if ("cj+sfnplx?".indexOf(c) < 0) {
                for (String behind : new String[] {"", "e", "ee", "eee", "5e", "5ee", "55e", "exe"}) {
                    notTaken(c + behind);
                }
            }
        }
    }

    private void checkTwelveCharacters() {
        sentence("A COMMAND is a text of at most 12 characters");
        notTaken("");
        notTaken("x");
        taken("xa");
        taken("?a?b?c?dsab");
        taken("?a?b?c?d?exf");
        taken("?a?b?c?dn12e");
        taken("?a?b?cn1234e");
        taken("?a?b?c?djabe");
        taken("?a?b?c?df1ab");
        notTaken("?a?b?c?d?ecab");
        notTaken("?a?b?c?dn123e");
        notTaken("?a?b?c?d?e?fxg");
        notTaken("?a?b?c?d?e?f");
        // What goes beyond 12 is refused by type and so is not part of the text.
        taken("?a?b?c?d?exff");
        taken("?a?b?c?djabeeeeeeeeeee");
    }

    private void checkNumbersOfDigits() {
        sentence("nd..Y: one to four digits; Y gets these");
        notTaken("n");
        notTaken("na");
        notTaken("n1");
        taken("n1a");
        taken("n1234a");
        notTaken("n12345a");
        notTaken("n123456789a");
        notTaken("n12a3");
        notTaken("n1a2b");
        file("one", done("n9a"), A, 9);
        file("two", done("n19a"), A, 1, 9);
        file("three", done("n919a"), A, 9, 1, 9);
        file("four", done("n1991l"), L, 1, 9, 9, 1);
    }

    private void checkQuestionAndCommand() {
        sentence("?X and a command");
        notTaken("?");
        notTaken("?a");
        notTaken("?xa");
        notTaken("??axb");
        notTaken("?ab");
        notTaken("?a?");
        notTaken("?a?b");
        notTaken("?a?xb");
        notTaken("xb?a");
        taken("?axa");
        taken("?a?axa");
        taken("?l?l?l?l?lxl");
    }

    private void checkFileNumbers() {
        sentence("FILES a .. l (0 .. 11)");
        TracedBuild x = scripted("n1a", "n2l");
        x.run(0);
        file("a is 0", x, 0, 1);
        file("l is 11", x, 11, 2);
        gone("-1", x, -1);
        gone("12", x, 12);
        due("put a", x.put(0, (short) 3), 2);
        due("put l", x.put(11, (short) 3), 2);
        due("put -1", x.put(-1, (short) 3), -1);
        due("put 12", x.put(12, (short) 3), -1);
    }

    private void checkNotThereAtFirst() {
        sentence("are not there (at first)");
        TracedBuild x = new TracedBuild();
        for (int file = 0; file < 12; file++) {
            gone("file " + file, x, file);
            file("p of file " + file, done("p" + (char) ('a' + file) + "e"), E, 0);
        }
    }

    private void checkNoneToSixNumbers() {
        sentence("or have 0 to 6 NUMBERS");
        file("0", having(EMPTY), A);
        int[] numbers = {};
        for (int many = 1; many <= 6; many++) {
            numbers = Arrays.copyOf(numbers, many);
            numbers[many - 1] = many * 7;
            file("by put", having(numbers), A, numbers);
            file("by a command", done("cab", numbers), B, numbers);
            file("by a command into itself", done("caa", numbers), A, numbers);
        }
        due("a seventh", having(numbers).put(A, (short) 1), -1);
    }

    private void checkExtremes() {
        sentence("NUMBERS, -32768 .. 32767");
        int[] ends = {LEAST, GREATEST, LEAST + 1, GREATEST - 1, -1, 0};
        file("put", having(ends), A, ends);
        file("c", done("cab", ends), B, ends);
        file("f1", done("f1ab", ends), B, ends);
        TracedBuild x = done("cab", ends);
        x.run(0);
        did("the same", x, 2);
        set(x, A, GREATEST, LEAST, LEAST + 1, GREATEST - 1, -1, 0);
        x.run(0);
        did("others", x, 1);
    }

    private void checkNotThereIsReadAsNone() {
        sentence("A file that is not there is read as if it had no numbers");
        for (int[] none : new int[][] {GONE, EMPTY}) {
            file("c", done("cac", none, row(1)), C);
            file("j, the first", done("jabc", none, row(1, 2)), C, 1, 2);
            file("j, the second", done("jbac", none, row(1, 2)), C, 1, 2);
            file("j, both", done("jaac", none), C);
            file("+, the first", done("+abc", none, row(1, 2)), C);
            file("+, the second", done("+bac", none, row(1, 2)), C);
            file("s", done("sac", none), C);
            file("f", done("f1ac", none), C);
            gone("?", done("?an1c", none), C);
        }
        gone("it is not there still", done("cac", GONE), A);
        TracedBuild x = having(row(1, 2, 3));
        x.remove(A);
        command(x, "jaac");
        x.run(0);
        file("what it had is not read", x, C);
    }

    private void checkWritesAtItsEnd() {
        sentence("What it WRITES it writes at its end, a file as a whole");
        file("c into itself", done("caa", row(1, 2)), A, 1, 2);
        file("j into the first", done("jaba", row(1, 2), row(3)), A, 1, 2, 3);
        file("j into the second", done("jabb", row(1, 2), row(3)), B, 1, 2, 3);
        file("j of itself", done("jaaa", row(1, 2, 3)), A, 1, 2, 3, 1, 2, 3);
        file("+ into the first", done("+aba", row(1, 2), row(3, 4)), A, 4, 6);
        file("s into itself", done("saa", row(3, 2, 1)), A, 1, 2, 3);
        file("f into itself", done("f2aa", row(1, 2, 3, 4)), A, 2, 4);
        file("p into itself, not there", done("paa", GONE), A, 0);
        file("p into itself, there", done("paa", row(7, 8)), A, 1);
        file("l into itself, not there", done("lb", row(1)), B, 0);
        file("l into itself, there", done("lb", row(1), row(7, 8, 9)), B, 0, 1);
        file("fewer than it had", done("cab", row(1), row(2, 3, 4, 5, 6, 7)), B, 1);
        file("none, where it had six", done("cab", GONE, row(2, 3, 4, 5, 6, 7)), B);
        file("more than it had", done("cab", row(1, 2, 3, 4, 5, 6), row(7)), B, 1, 2, 3, 4, 5, 6);
        throwing("behind its end", INDEX, () -> done("cab", row(1), row(2, 3)).number(B, 1));
    }

    private void checkCutAtSix() {
        sentence("what would be more than six numbers is cut there");
        file("3 and 2", done("jabc", row(1, 2, 3), row(4, 5)), C, 1, 2, 3, 4, 5);
        file("3 and 3", done("jabc", row(1, 2, 3), row(4, 5, 6)), C, 1, 2, 3, 4, 5, 6);
        file("3 and 4", done("jabc", row(1, 2, 3), row(4, 5, 6, 7)), C, 1, 2, 3, 4, 5, 6);
        file("4 and 3", done("jabc", row(1, 2, 3, 4), row(5, 6, 7)), C, 1, 2, 3, 4, 5, 6);
        file("6 and none", done("jabc", row(1, 2, 3, 4, 5, 6), EMPTY), C, 1, 2, 3, 4, 5, 6);
        file("none and 6", done("jabc", EMPTY, row(1, 2, 3, 4, 5, 6)), C, 1, 2, 3, 4, 5, 6);
        file("6 and 1", done("jabc", row(1, 2, 3, 4, 5, 6), row(7)), C, 1, 2, 3, 4, 5, 6);
        file("1 and 6", done("jabc", row(7), row(1, 2, 3, 4, 5, 6)), C, 7, 1, 2, 3, 4, 5);
        file("6 and 6", done("jaaa", row(1, 2, 3, 4, 5, 6)), A, 1, 2, 3, 4, 5, 6);
        due("by its trace, too", done("jaaa", row(1, 2, 3, 4)).trace(0, 4), 6);
        TracedBuild x = done("jaab", row(1, 2, 3, 4));
        x.run(0);
        did("and it is skipped then", x, 2);
        due("nor does put make it more", x.put(B, (short) 9), -1);
    }

    private void checkSumsWrap() {
        sentence("sums wrap as short numbers do");
        file("upwards", done("+abc", row(GREATEST, GREATEST, GREATEST, 32766, 16384, 16383), row(0, 1, GREATEST, 1, 16384, 16384)),
            C, GREATEST, LEAST, -2, GREATEST, LEAST, GREATEST);
        file("downwards", done("+abc", row(LEAST, LEAST, LEAST, -32767, LEAST, -1), row(0, -1, LEAST, -1, GREATEST, LEAST)),
            C, LEAST, GREATEST, 0, LEAST, -1, GREATEST);
    }

    private void checkAsLongAsBoth() {
        sentence("as long as both have one");
        int[] ones = {1, 2, 3, 4, 5, 6};
        int[] tens = {10, 20, 30, 40, 50, 60};
        int[] sums = {11, 22, 33, 44, 55, 66};
        for (int one = 0; one <= 6; one++) {
            for (int two = 0; two <= 6; two++) {
                TracedBuild x = done("+abc", Arrays.copyOf(ones, one), Arrays.copyOf(tens, two));
                file(one + " and " + two, x, C, Arrays.copyOf(sums, Math.min(one, two)));
            }
        }
    }

    private void checkSorted() {
        sentence("those of X, sorted, the least first");
        file("none", done("sab", EMPTY), B);
        file("one", done("sab", row(7)), B, 7);
        file("falling", done("sab", row(6, 5, 4, 3, 2, 1)), B, 1, 2, 3, 4, 5, 6);
        file("rising", done("sab", row(1, 2, 3, 4, 5, 6)), B, 1, 2, 3, 4, 5, 6);
        file("alike", done("sab", row(2, 1, 2, 1, 2, 1)), B, 1, 1, 1, 2, 2, 2);
        file("extremes", done("sab", row(0, GREATEST, -1, LEAST, 1, GREATEST)), B, LEAST, -1, 0, 1, GREATEST, GREATEST);
        file("the last is the least", done("sab", row(0, 1, 2, 3, 4, LEAST)), B, LEAST, 0, 1, 2, 3, 4);
    }

    private void checkDivides() {
        sentence("those of X that d divides without remainder, in their order");
        file("1 divides all", done("f1ab", row(3, -2, 0, GREATEST, LEAST, 3)), B, 3, -2, 0, GREATEST, LEAST, 3);
        file("2", done("f2ab", row(LEAST, GREATEST, -1, 1, -2, 2)), B, LEAST, -2, 2);
        file("9", done("f9ab", row(8, 9, 10, -8, -9, -10)), B, 9, -9);
        file("9, and 0", done("f9ab", row(-18, 0, 18, 17, 19, 1)), B, -18, 0, 18);
        file("7", done("f7ab", row(GREATEST, LEAST, 6, -7, 14, 7)), B, GREATEST, -7, 14, 7);
        file("none", done("f5ab", row(1, 4, 6, -4, -6, 9)), B);
        file("d is not the file", done("f2bc", row(2), row(1, 2)), C, 2);
    }

    private void checkThere() {
        sentence("Y gets 1 if X is there, else 0");
        file("with numbers", done("pab", row(0)), B, 1);
        file("without any", done("pab", EMPTY), B, 1);
        file("not there", done("pab", GONE), B, 0);
        TracedBuild x = having(row(5));
        x.remove(A);
        command(x, "pab");
        x.run(0);
        file("not there any more", x, B, 0);
        file("the last file", done("pla"), A, 0);
    }

    private void checkListed() {
        sentence("the numbers of the files that are there (0 for a), in their order, the first six");
        file("none", done("la"), A);
        file("a is 0", done("lb", row(9)), B, 0);
        TracedBuild last = new TracedBuild();
        put(last, L, 9);
        command(last, "lb");
        last.run(0);
        file("l is 11", last, B, 11);
        file("five", done("ll", row(1), row(1), row(1), row(1), row(1)), L, 0, 1, 2, 3, 4);
        file("six", done("ll", row(1), GONE, row(1), row(1), row(1), row(1), row(1)), L, 0, 2, 3, 4, 5, 6);
        file("seven", done("ll", row(1), row(1), row(1), row(1), row(1), row(1), row(1)), L, 0, 1, 2, 3, 4, 5);
        file("one without numbers", done("ll", EMPTY, row(1), EMPTY), L, 0, 1, 2);
        TracedBuild all = new TracedBuild();
        for (int file = 11; file >= 0; file--) {
            put(all, file, 1);
        }
        command(all, "lf");
        all.run(0);
        file("all twelve", all, F, 0, 1, 2, 3, 4, 5);
    }

    private void checkTakenAway() {
        sentence("X is not there any more");
        gone("with numbers", done("xa", row(1, 2)), A);
        gone("without any", done("xa", EMPTY), A);
        gone("not there before", done("xa", GONE), A);
        gone("the last file", done("xl"), L);
        due("put begins anew", done("xa", row(1, 2)).put(A, (short) 3), 1);
        file("no other", done("xa", row(1), row(2)), B, 2);
    }

    private void checkGoesOn() {
        sentence("if it has numbers and the first is not 0, that command is done");
        gone("not there", done("?an1b", GONE), B);
        gone("without any", done("?an1b", EMPTY), B);
        gone("0", done("?an1b", row(0)), B);
        gone("0 first", done("?an1b", row(0, 1, 1)), B);
        for (int first : new int[] {1, -1, 256, -256, LEAST, GREATEST}) {
            file("the first is " + first, done("?an1b", row(first)), B, 1);
            file("the first is " + first + ", then 0", done("?an1b", row(first, 0)), B, 1);
        }
        TracedBuild once = scripted("n1k", "?an1b");
        put(once, A, 5);
        once.run(0);
        once.remove(A);
        once.remove(B);
        once.tear(0);
        once.run(0);
        gone("it had numbers once, and is not there now", once, B);
        once.tear(0);
        put(once, A, 5);
        once.run(0);
        edit(once, 0, "cla");
        once.remove(B);
        once.tear(0);
        once.run(0);
        gone("it had numbers once, and has none now", once, B);
        file("five times", done("?a?b?c?d?exf", row(1), row(1), row(1), row(1), row(1), row(7)), A, 1);
        gone("five times, all go on", done("?a?b?c?d?exf", row(1), row(1), row(1), row(1), row(1), row(7)), F);
        for (int stop = 0; stop < 5; stop++) {
            int[][] rows = {row(1), row(1), row(1), row(1), row(1), row(7)};
            rows[stop] = row(0);
            TracedBuild x = done("?a?b?c?d?exf", rows);
            file("the one at " + stop + " does not", x, F, 7);
            trace("the one at " + stop + " does not", x, 0, 12, (2 << stop) - 1, 0, -1, -1);
        }
    }

    private void checkReadAndAsked() {
        sentence("READ are the files X and Y from which numbers are taken (also by ?); ASKED the X of a p; and l asks for all files");
        trace("c", done("cal"), 0, 3, 1, 0, 11, 0);
        trace("c, the last", done("cla"), 0, 3, 2048, 0, 0, 0);
        trace("c, itself", done("caa"), 0, 3, 1, 0, 0, 0);
        trace("j", done("jalb"), 0, 4, 2049, 0, 1, 0);
        trace("j, one twice", done("jbba"), 0, 4, 2, 0, 0, 0);
        trace("+", done("+alb"), 0, 4, 2049, 0, 1, 0);
        trace("+, the other though one has none", done("+bac", row(1)), 0, 4, 3, 0, 2, 0);
        trace("s", done("sla"), 0, 3, 2048, 0, 0, 0);
        trace("f", done("f1la"), 0, 4, 2048, 0, 0, 0);
        trace("n", done("n1234a"), 0, 6, 0, 0, 0, 4);
        trace("p", done("pla"), 0, 3, 0, 2048, 0, 1);
        trace("p, a", done("pal"), 0, 3, 0, 1, 11, 1);
        trace("l", done("la"), 0, 2, 0, 4095, 0, 0);
        trace("x", done("xa", row(1)), 0, 2, 0, 0, 0, -1);
        trace("? and p", done("?apbc", row(1)), 0, 5, 1, 2, 2, 1);
        trace("? and p of one file", done("?apac", row(1)), 0, 5, 1, 1, 2, 1);
        trace("? and l", done("?alb", row(1)), 0, 4, 1, 4095, 1, 1);
        trace("? that does not go on to p", done("?apbc"), 0, 5, 1, 0, -1, -1);
        trace("? that does not go on to l", done("?alc", row(0)), 0, 4, 1, 0, -1, -1);
    }

    private void all() {
        part(this::checkLetters);
        part(this::checkDigits);
        part(this::checkKinds);
        part(this::checkTwelveCharacters);
        part(this::checkNumbersOfDigits);
        part(this::checkQuestionAndCommand);
        part(this::checkFileNumbers);
        part(this::checkNotThereAtFirst);
        part(this::checkNoneToSixNumbers);
        part(this::checkExtremes);
        part(this::checkNotThereIsReadAsNone);
        part(this::checkWritesAtItsEnd);
        part(this::checkCutAtSix);
        part(this::checkSumsWrap);
        part(this::checkAsLongAsBoth);
        part(this::checkSorted);
        part(this::checkDivides);
        part(this::checkThere);
        part(this::checkListed);
        part(this::checkTakenAway);
        part(this::checkGoesOn);
        part(this::checkReadAndAsked);
        end();
    }

    public static void main(String[] args) {
        new CommandBoundaryTest().all();
    }
}
