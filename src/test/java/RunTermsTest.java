import java.util.Arrays;

/** 'Terms', on traces, hazards and runs: the sentences that say how a command is done and how a run goes. */
public final class RunTermsTest extends Check {
    private static final int FILES = 12;

    private RunTermsTest() {
        super("RunTermsTest");
    }

    private static TracedBuild ranOnce(String... texts) {
        TracedBuild x = scripted(texts);
        x.run(0);
        return x;
    }

    /** A run without file a has taught that the commands with ?a do nothing more; now a is there. */
    private static TracedBuild taught(String... texts) {
        TracedBuild x = ranOnce(texts);
        put(x, A, 1);
        return x;
    }

    private static String with(String text, int place, char c) {
        StringBuilder other = new StringBuilder(text);
        other.setCharAt(place, c);
        return other.toString();
    }

    private void checkOfItsText() {
        sentence("A TRACE is a command's text with what it READ");
        String[] texts = {"cab", "jabc", "+abc", "sab", "f3ab", "n1234b", "pab", "lb", "xb", "?k?k?k?kjabc", "?k?k?k?k?kxb"};
        for (String text : texts) {
            for (int place = 1; place < text.length(); place++) {
                char c = text.charAt(place);
                if (c != '?' && (place == text.length() - 1 || text.charAt(place - 1) == '?' || c <= '9')) {
                    other(text, with(text, place, c <= '9' ? '7' : 'd'));
                }
            }
        }
        other("cab", "sab");
        other("jabc", "+abc");
        other("cab", "pab");
        other("lb", "xb");
        other("n1b", "n11b");
        other("cab", "?acab");
        other("?acab", "?a?acab");
    }

    /** The second text has no trace, though the first, so like it, has one; then both have their own. */
    private void other(String text, String otherText) {
        TracedBuild x = done(text, row(1, 2), row(3, 4), row(5, 6));
        edit(x, 0, otherText);
        x.run(0);
        due(otherText + " behind " + text + ": did", x.did(0), 1);
        due(otherText + " behind " + text + ": why", x.why(0), 12);
        due(otherText + " behind " + text + ": traces", x.traces(), 2);
        trace(text + " is the oldest", x, 0, text.length());
        trace(otherText + " is the latest", x, 1, otherText.length());
        due(otherText + " behind " + text + ": none falls out", x.compact(), 0);
    }

    private void checkFitting() {
        sentence("FITTING is the latest trace of its text by which all that was read and asked for is as it was then");
        // It reads a, b and d, asks for c, and writes e.
        for (int file = 0; file < FILES; file++) {
            TracedBuild x = done("?a?b?dpce", row(1), row(2), GONE, row(3));
            put(x, file, 7);
            x.run(0);
            due("file " + file + " got a number: did", x.did(0), file < E ? 1 : file == E ? 3 : 2);
            due("file " + file + " got a number: why", x.why(0), file < E ? file : -1);
            x.remove(C);
            set(x, A, 1);
            set(x, B, 2);
            set(x, D, 3);
            x.run(0);
            due("all is as it was then: did", x.did(0), file == C ? 3 : 2);
            file("all is as it was then", x, E, 0);
            due("traces", x.traces(), file < E ? 2 : 1);
        }
        TracedBuild x = scripted("cab");
        for (int i = 1; i <= 20; i++) {
            set(x, A, i, -i);
            x.run(0);
        }
        for (int i = 1; i <= 20; i++) {
            set(x, A, i, -i);
            x.run(0);
            did("an older trace fits", x, 3);
            file("what that one wrote", x, B, i, -i);
        }
        due("none came to them", x.traces(), 20);
        set(x, A, 1, -2);
        x.run(0);
        did("no trace fits, though for each number there is one", x, 1);
        due("by the latest trace", x.why(0), A);
    }

    private void checkNotThereIsAnother() {
        sentence("what it READ (files with what they had, or that they were not there)");
        String[] readers = {"cab", "jacb", "jcab", "+acb", "+cab", "sab", "f1ab", "?an1b"};
        for (String text : readers) {
            TracedBuild x = ranOnce("xa", text);
            x.run(0);
            did(text + ": not there both times", x, 2, 2);
            edit(x, 0, "cla");
            x.run(0);
            did(text + ": there now, without numbers", x, 1, 1);
            due(text + ": there now, without numbers: why", x.why(1), A);
            x.run(0);
            did(text + ": there both times, without numbers", x, 2, 2);
            edit(x, 0, "xa");
            x.run(0);
            did(text + ": not there, of which the first trace tells", x, 3, 2);
            x.tear(2);
            edit(x, 0, "cla");
            x.run(0);
            x.tear(3);
            x.run(0);
            did(text + ": there without numbers, of which no trace tells", x, 2, 1);
        }
    }

    private void checkPutBack() {
        sentence("If there is one: what it wrote is put back, if it is not so (the command is RESTORED then, else SKIPPED)");
        int[][] results = {EMPTY, row(0), row(5), row(5, 6), row(6, 5), row(1, 2, 3, 4, 5, 6), row(1, 2, 3, 4, 5, 7)};
        for (int[] wrote : results) {
            for (int[] now : results) {
                TracedBuild x = having(wrote, GONE, now, row(9));
                for (String text : new String[] {"cab", "ccb", "cab"}) {
                    if (x.commands() == 0) {
                        command(x, text);
                    } else {
                        edit(x, 0, text);
                    }
                    x.run(0);
                }
                did("it wrote", x, wrote == now ? 2 : 3);
                file("what it wrote is there", x, B, wrote);
                file("what it read is as it was", x, A, wrote);
                file("another is as it was", x, D, 9);
                due("no trace came", x.traces(), 2);
                x.remove(B);
                x.run(0);
                did("it is not there", x, 3);
                file("it is there again", x, B, wrote);
                x.run(0);
                did("now it is so", x, 2);
            }
        }
        TracedBuild away = done("xa", row(1));
        away.run(0);
        did("it is not there, as it wrote", away, 2);
        put(away, A, 1);
        away.run(0);
        did("it is there", away, 3);
        gone("it is not there again", away, A);
        TracedBuild nothing = done("?an1b", GONE, row(4));
        nothing.run(0);
        did("it wrote nothing", nothing, 2);
        nothing.remove(B);
        nothing.run(0);
        did("it wrote nothing, and b may go", nothing, 2);
        gone("nothing is put back", nothing, B);
    }

    /** All seven run whenever a gets other numbers; they write b, c, d, nothing, f, h and g. */
    private static final String[] SEVEN = {"cab", "jaac", "?apad", "?a?kcae", "?axf", "?asah", "?alg"};
    private static final int[] NUMBERS_OF_A = {3, 1, 6, 2, 5, 4, 1, 3, 6};

    private static int[] numbersOfA(int round) {
        int[] numbers = new int[NUMBERS_OF_A[round]];
        Arrays.fill(numbers, round + 1);
        return numbers;
    }

    private void traceOfSeven(TracedBuild x, int k, int which, int round) {
        int many = NUMBERS_OF_A[round];
        int[][] due = {
            {3, 1, 0, B, many}, {4, 1, 0, C, Math.min(6, 2 * many)}, {5, 1, 1, D, 1}, {7, 1 | 1 << K, 0, -1, -1},
            {4, 1, 0, F, -1}, {5, 1, 0, H, many}, {4, 1, 4095, G, round == 0 ? 5 : 6},
        };
        trace(SEVEN[which] + " in round " + round, x, k, due[which]);
    }

    private void checkStore() {
        sentence("THE STORE has at most 24 traces, the latest ones");
        for (int rounds = 1; rounds <= NUMBERS_OF_A.length; rounds++) {
            for (int back = 0; back < rounds; back++) {
                TracedBuild x = scripted(SEVEN);
                for (int round = 0; round < rounds; round++) {
                    set(x, A, numbersOfA(round));
                    x.run(0);
                }
                int came = 7 * rounds;
                int fell = Math.max(0, came - 24);
                due("traces", x.traces(), came - fell);
                for (int k = 0; k < came - fell; k++) {
                    traceOfSeven(x, k, (fell + k) % 7, (fell + k) / 7);
                }
                set(x, A, numbersOfA(back));
                x.run(0);
                // Where the first of a round has fallen out, each that runs for it pushes the next one out.
                boolean known = 7 * back >= fell;
                for (int k = 0; k < 6; k++) {
                    due("round " + back + " once more: " + SEVEN[k], x.did(k) == 1, !known);
                }
                file("round " + back + " once more", x, B, numbersOfA(back));
                file("round " + back + " once more", x, H, numbersOfA(back));
            }
        }
    }

    private void checkTracesAnew() {
        sentence("A TRACE is a command's text with what it READ");
        for (int one = 0; one < SEVEN.length; one++) {
            for (int two = 0; two < SEVEN.length; two++) {
                TracedBuild x = done(SEVEN[one], row(1, 2, 3), GONE, row(1), GONE, GONE, GONE, GONE, row(1));
                x.tear(0);
                TracedBuild fresh = done(SEVEN[two], row(1, 2, 3), GONE, row(1), GONE, GONE, GONE, GONE, row(1));
                for (int file = B; file <= L; file++) {
                    x.remove(file);
                }
                put(x, C, 1);
                put(x, H, 1);
                edit(x, 0, SEVEN[two]);
                x.run(0);
                for (int what = 0; what < 5; what++) {
                    due(SEVEN[two] + " says nothing of " + SEVEN[one] + ": " + what, x.trace(0, what), fresh.trace(0, what));
                }
            }
        }
    }

    private void checkRuns() {
        sentence("If there is none: it RUNS, and its trace comes into the store");
        TracedBuild x = scripted("cab", "pcd");
        x.run(0);
        did("none", x, 1, 1);
        due("two came", x.traces(), 2);
        put(x, A, 1);
        x.run(0);
        did("none for the first", x, 1, 2);
        due("one came", x.traces(), 3);
        put(x, C, 1);
        x.run(0);
        did("none for the second", x, 2, 1);
        due("one came", x.traces(), 4);
        trace("the first", x, 0, 3, 1, 0, B, 0);
        trace("the second", x, 1, 3, 0, 4, D, 1);
        trace("the third", x, 2, 3, 1, 0, B, 1);
        trace("the fourth", x, 3, 3, 0, 4, D, 1);
        file("it ran", x, D, 1);
        x.tear(0);
        x.run(0);
        did("none any more, though the files are so", x, 1, 1);
        due("two came", x.traces(), 2);
        TracedBuild full = scripted("cab");
        for (int i = 0; i < 24; i++) {
            set(full, C, i);
            edit(full, 0, i == 0 ? "cab" : "ccd");
            full.run(0);
        }
        command(full, "cab");
        set(full, C, 99);
        full.run(0);
        did("its trace fell out in this very run", full, 1, 1);
        due("so there was none", full.why(1), 12);
    }

    private void fatal(String what, TracedBuild x, int... parts) {
        due(what + ": run", x.run(0), 1);
        hazard(what, x, parts);
        due(what + ": again", x.again(), 0);
    }

    private void none(String what, TracedBuild x) {
        due(what + ": run", x.run(0), 0);
        noHazard(what, x);
    }

    private void checkTraceSays() {
        sentence("In either case the trace says what it has read, asked for and written in this run");
        TracedBuild written = ranOnce("n1a", "?kn2a");
        written.run(0);
        put(written, K, 1);
        fatal("the first is skipped and has written", written, 1, 0, 1, A);
        did("the first is skipped and has written", written, 2, 1);
        TracedBuild read = ranOnce("cab", "?kn2a");
        put(read, K, 1);
        fatal("the first is skipped and has read", read, 2, 0, 1, A);
        did("the first is skipped and has read", read, 2, 1);
        TracedBuild asked = ranOnce("pab", "?kn2a");
        put(asked, K, 1);
        fatal("the first is skipped and has asked", asked, 2, 0, 1, A);
        did("the first is skipped and has asked", asked, 2, 1);
        TracedBuild restored = ranOnce("cab", "?kn2a");
        put(restored, K, 1);
        put(restored, B, 1);
        fatal("the first is restored and has read", restored, 2, 0, 1, A);
        did("the first is restored and has read", restored, 3, 1);
        TracedBuild askedThen = ranOnce("pab", "?kn2a");
        put(askedThen, K, 1);
        put(askedThen, B, 1);
        fatal("the first is restored and has asked", askedThen, 2, 0, 1, A);
        did("the first is restored and has asked", askedThen, 3, 1);
        TracedBuild second = ranOnce("?kcab", "n2a");
        put(second, K, 1);
        fatal("the second is skipped and has written", second, 2, 0, 1, A);
        did("the second is skipped and has written", second, 1, 2);
        TracedBuild notNow = scripted("?kcab", "n2a");
        put(notNow, K, 1);
        fatal("it ran and has read", notNow, 2, 0, 1, A);
        notNow.remove(K);
        none("it ran once more and has not", notNow);
        notNow.remove(A);
        none("it is skipped and has not, by the trace that fits", notNow);
        did("it is skipped and has not, by the trace that fits", notNow, 2, 3);
        put(notNow, K, 1);
        notNow.remove(A);
        fatal("an older trace fits, and by that it has", notNow, 2, 0, 1, A);
        did("an older trace fits, and by that it has", notNow, 2, 3);
    }

    /** Command 1 has a trace with a and b there, and a later one without a, by which command 2 may go ahead of it. */
    private static TracedBuild twiceTaught(String first) {
        TracedBuild x = scripted("n1k", first, "n2b");
        put(x, A, 1);
        put(x, B, 2);
        x.run(0);
        x.remove(A);
        x.run(0);
        put(x, A, 1);
        x.remove(B);
        return x;
    }

    private void checkTraceSaysOfLater() {
        sentence("In either case the trace says what it has read, asked for and written in this run");
        TracedBuild skipped = twiceTaught("?apbd");
        due("f is skipped and asks for what came ahead", skipped.run(1), 1);
        due("f is skipped and asks for what came ahead", skipped.again(), 1);
        due("it is known, so that it does not run the first time", skipped.traces(), 5);
        TracedBuild restored = twiceTaught("?apbd");
        put(restored, D, 9);
        restored.run(1);
        due("f is restored and asks for what came ahead", restored.again(), 1);
        due("it is known, so that it does not run the first time", restored.traces(), 5);
        TracedBuild there = twiceTaught("?apbd");
        put(there, B, 7);
        due("f asks for what was there before, too", there.run(1), 0);
        due("f asks for what was there before, too", there.again(), 0);
        TracedBuild reading = twiceTaught("?a+bbd");
        put(reading, D, 9);
        reading.run(1);
        due("f is restored and reads what was written ahead", reading.again(), 1);
        TracedBuild alike = twiceTaught("?a+bbd");
        put(alike, B, 2);
        alike.run(1);
        due("f is skipped and reads what was written ahead", alike.again(), 1);
        due("none has run", alike.traces(), 4);
    }

    private void checkTakingAwayWhatIsNotThere() {
        sentence("what it WROTE (at most one file, with what it has since, or that it is not there; nothing, where a ? did not go on)");
        trace("x of a file that is not there", done("xa"), 0, 2, 0, 0, A, -1);
        trace("x of a file that is not there, behind ?", done("?axb", row(1)), 0, 4, 1, 0, B, -1);
        trace("x that a ? does not let happen", done("?axb"), 0, 4, 1, 0, -1, -1);
        fatal("both have written", scripted("xa", "xa"), 1, 0, 1, A);
        fatal("it has written what was read", scripted("cab", "xa"), 2, 0, 1, A);
        none("it has changed nothing for who asked", scripted("pab", "xa"));
        TracedBuild x = ranOnce("n1k", "xb", "cbd");
        x.run(4);
        did("who reads it waits", x, 2, 2, 2);
        TracedBuild y = ranOnce("n1k", "pbd", "xb");
        y.run(4);
        did("who takes it away waits for who asks", y, 2, 2, 2);
    }

    private void checkInThisRun() {
        sentence("A HAZARD: a command e has been done, and then f is done (in this run)");
        TracedBuild x = ranOnce("cab");
        edit(x, 0, "n1a");
        none("e was done in an earlier run", x);
        edit(x, 0, "n2a");
        none("both write, but not in one run", x);
        TracedBuild twice = ranOnce("n1a", "cab");
        none("the same once more", twice);
        twice.remove(A);
        none("the same, restored", twice);
        none("by itself no command gets into its own way", scripted("caa"));
        none("by itself, asking", scripted("paa"));
        none("by itself, listing", scripted("la"));
        none("f is not done, as e alone is there", scripted("n1a"));
        TracedBuild outside = ranOnce("cab");
        put(outside, A, 1);
        none("what comes from outside is no command", outside);
        TracedBuild behind = ranOnce("n1a", "n2a", "n3a");
        hazard("the third was not done", behind, 1, 0, 1, A);
        TracedBuild again = taught("n1l", "?an1b", "cbd");
        due("who was done in the first of two runs", again.run(1), 0);
        due("was not done in the second", again.again(), 1);
        noHazard("was not done in the second", again);
    }

    private void checkAskedAhead() {
        sentence("3 e comes behind f in the script, and e has written a file that f reads; "
            + "or has changed whether one is there for which f asks");
        for (String asking : new String[] {"?apbd", "?ald"}) {
            for (String writing : new String[] {"n2b", "clb", "xb"}) {
                for (int[] b : new int[][] {GONE, row(2), row(7)}) {
                    // By the traces, of a time without a, command 2 may go ahead of command 1.
                    TracedBuild x = taught("n1k", asking, writing);
                    x.remove(B);
                    put(x, D, 4);
                    if (b != GONE) {
                        put(x, B, b);
                    }
                    boolean changes = (b != GONE) == writing.equals("xb");
                    x.run(1);
                    due(asking + " and " + writing + ": again", x.again(), changes ? 1 : 0);
                    due(asking + " and " + writing + ": a fatal one the second time", x.hazard(0), changes ? 2 : -1);
                }
            }
        }
        for (String reading : new String[] {"?acbd", "?ajlbd", "?a+bld", "?asbd", "?af1bd", "?a?bxd"}) {
            for (String writing : new String[] {"n2b", "clb", "xb"}) {
                TracedBuild x = taught("n1k", reading, writing);
                due(reading + " and " + writing + ": run", x.run(1), 1);
                due(reading + " and " + writing + ": again", x.again(), 1);
                hazard(reading + " and " + writing + ": the second time", x, 2, 1, 2, B);
            }
        }
        none("in its turn e comes in front of f", scripted("n1b", "cbc", "pbd", "le"));
    }

    private void checkInOrder() {
        sentence("A RUN with so many SPARE hands. In the order of the script, each command that is not done yet is done, in its turn");
        // Command k writes file k; each needs what stands before it, so that in another order one would get in another's way.
        String[] chain = {"n5a", "cab", "jabc", "+cad", "sde", "jdef", "cfg", "pgh", "?hxi", "lj"};
        for (int spare = 0; spare <= 4; spare++) {
            TracedBuild x = scripted(chain);
            due("run", x.run(spare), 0);
            did("each ran, in its turn", x, 1, 1, 1, 1, 1, 1, 1, 1, 1, 1);
            due("each ran once", x.traces(), 10);
            for (int k = 0; k < 10; k++) {
                due("in their order", x.trace(k, 3), k);
            }
            file("b", x, B, 5);
            file("c", x, C, 5, 5);
            file("d", x, D, 10);
            file("f", x, F, 10, 10);
            file("h", x, H, 1);
            file("j", x, J, 0, 1, 2, 3, 4, 5);
            x.run(spare);
            due("j is there now, so l ran once more", x.traces(), 11);
            due("run", x.run(spare), 0);
            for (int k = 0; k < 10; k++) {
                due("each was passed over: did(" + k + ")", x.did(k) % 4, 2);
            }
        }
        TracedBuild once = ranOnce("n1a", "n2b", "ccd");
        put(once, C, 1);
        once.run(1);
        did("who was done ahead", once, 2, 2, 5);
        due("is not done in its turn once more", once.traces(), 4);
        TracedBuild backwards = scripted("cab", "xl", "cbc");
        put(backwards, A, 1);
        backwards.run(0);
        file("what is written is read behind it", backwards, C, 1);
        TracedBuild other = scripted("cbc", "xl", "cad");
        put(other, B, 3);
        other.run(0);
        file("what is there is read", other, C, 3);
    }

    private void checkAfterEachTurn() {
        sentence("After each turn, i, whether something had to be done in it or not, at most SPARE times: "
            + "the first command j behind i + 1 that is not done");
        // 2 and 3 wait for 1, and 5 for 4; 4 goes ahead of 1, and 5, with a hand more, too.
        String[] texts = {"n1a", "n2b", "cbc", "ccd", "n3e", "cef"};
        int[][] due = {{2, 2, 2, 2, 2, 2}, {2, 2, 2, 2, 6, 6}, {2, 2, 2, 2, 6, 6}};
        for (int spare = 0; spare <= 2; spare++) {
            TracedBuild x = ranOnce(texts);
            x.run(spare);
            did("spare " + spare, x, due[spare]);
        }
        // The order of what went ahead is seen by the traces of those that had to run.
        String[] six = {"n1a", "n1b", "?kn1c", "?kn1d", "?kn1e", "?kn1f"};
        TracedBuild x = ranOnce(six);
        put(x, K, 1);
        x.run(2);
        did("all behind 1 went ahead", x, 2, 2, 5, 5, 5, 5);
        for (int k = 2; k < 6; k++) {
            due("the first came first", x.trace(4 + k, 3), k);
        }
        // Behind turn 0 goes 2, behind turn 1 goes 3, which waited for 1, and behind turn 2, which is idle, goes 4.
        TracedBuild y = ranOnce("n1a", "n1b", "n1c", "cbd", "n1e");
        y.run(1);
        did("behind an idle turn, too", y, 2, 2, 6, 6, 6);
    }

    private void checkAhead() {
        sentence("neither writes what the other one reads, asks for, or writes; j is done AHEAD");
        for (int spare = 1; spare <= 4; spare++) {
            TracedBuild x = ranOnce("n1a", "n1b", "n1c");
            x.run(spare);
            did("skipped ahead", x, 2, 2, 6);
            x.remove(C);
            x.run(spare);
            did("restored ahead", x, 2, 2, 7);
            edit(x, 2, "ckc");
            x.run(spare);
            did("without a trace it is not ahead", x, 2, 2, 1);
            put(x, K, 3);
            x.run(spare);
            did("ran ahead", x, 2, 2, 5);
            x.run(0);
            did("without hands nobody goes ahead", x, 2, 2, 2);
        }
    }

    private void checkLookedFor() {
        sentence("After each command that is done a hazard is looked for");
        for (int f = 1; f < 10; f++) {
            String[] texts = {"n1a", "n1b", "n1c", "n1d", "n1e", "n1f", "n1g", "n1h", "n1i", "n1j"};
            texts[f] = "xa";
            TracedBuild x = scripted(texts);
            fatal("f is " + f, x, 1, 0, f, A);
            for (int k = 0; k < 10; k++) {
                due("f is " + f + ": did(" + k + ")", x.did(k), k <= f ? 1 : 0);
            }
            due("f is " + f + ": traces", x.traces(), f + 1);
        }
        fatal("the first in time, not in the script", scripted("n1a", "n1b", "n2b", "n2a"), 1, 1, 2, B);
        // With two hands 2 and 3 would go ahead behind turn 0, but 2 is in the way of 0.
        TracedBuild x = taught("n1b", "n2c", "?an3b", "ckd");
        put(x, K, 1);
        due("who goes ahead is looked at, too", x.run(2), 1);
        due("at once: 3 has not run", x.traces(), 5);
        did("the second time", x, 2, 2, 3, 0);
        // Not before it is done: command 1 is in the way of 2, which was done ahead, but 3 goes ahead first.
        TracedBuild y = taught("n1l", "?an1b", "cbd", "cke");
        put(y, K, 1);
        due("once more", y.run(2), 0);
        due("3 ran the first time, 2 and 1 as well, 2 once more", y.traces(), 7);
        trace("3 ran before 1", y, 4, 3, 1 << K, 0, E, 1);
        trace("1 ran behind it", y, 5, 5, 1, 0, B, 1);
        trace("2 ran the second time", y, 6, 3, 1 << B, 0, D, 1);
        did("the second time", y, 2, 3, 1, 3);
    }

    private void checkFilesAsAtBegin() {
        sentence("then all files become what they were when the run began (the store keeps what it has), "
            + "and it is run once more, without spare hands");
        // Ahead of command 1, which is found out to write b, go 2, which reads b, and those that touch e to i.
        TracedBuild x = scripted("n1l", "?an1b", "cbd", "n12e", "xf", "clg", "ckh", "xi");
        x.run(0);
        x.remove(L);
        put(x, A, 1);
        set(x, E, 9);
        put(x, F, 1, 2, 3, 4, 5, 6);
        set(x, G, 8);
        x.remove(H);
        put(x, I, -7);
        command(x, "n1b");
        due("fatal in the end", x.run(4), 1);
        due("again", x.again(), 1);
        did("the second time, without hands", x, 3, 3, 1, 3, 3, 3, 3, 3, 1);
        TracedBuild y = scripted("n1l", "?an1b", "n2b", "n12e", "xf", "clg", "ckh", "xi");
        y.run(0);
        put(y, A, 1);
        set(y, E, 9);
        put(y, F, 1, 2, 3, 4, 5, 6);
        y.remove(G);
        y.remove(H);
        put(y, I, -7);
        due("fatal at 2, the second time", y.run(4), 1);
        due("again", y.again(), 1);
        did("the second time", y, 2, 3, 3, 0, 0, 0, 0, 0);
        file("e", y, E, 9);
        file("f", y, F, 1, 2, 3, 4, 5, 6);
        gone("g", y, G);
        gone("h", y, H);
        file("i", y, I, -7);
        file("b is of the second time", y, B, 2);
        for (int spare = 0; spare <= 4; spare++) {
            TracedBuild z = taught("n1l", "?an1b", "cbd");
            due("run(" + spare + ")", z.run(spare), 0);
            due("run(" + spare + "): again", z.again(), spare == 0 ? 0 : 1);
            did("run(" + spare + ")", z, 2, spare == 0 ? 1 : 3, 1);
        }
    }

    private void all() {
        part(this::checkOfItsText);
        part(this::checkFitting);
        part(this::checkNotThereIsAnother);
        part(this::checkPutBack);
        part(this::checkStore);
        part(this::checkTracesAnew);
        part(this::checkRuns);
        part(this::checkTraceSays);
        part(this::checkTraceSaysOfLater);
        part(this::checkTakingAwayWhatIsNotThere);
        part(this::checkInThisRun);
        part(this::checkAskedAhead);
        part(this::checkInOrder);
        part(this::checkAfterEachTurn);
        part(this::checkAhead);
        part(this::checkLookedFor);
        part(this::checkFilesAsAtBegin);
        end();
    }

    public static void main(String[] args) {
        new RunTermsTest().all();
    }
}
