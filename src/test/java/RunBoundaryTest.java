/** 'Terms', on the script, the store, hazards and runs: every sentence that names a boundary case, on both its sides. */
public final class RunBoundaryTest extends Check {
    private static final String[] TEN = {"n1a", "n2b", "n3c", "n4d", "n5e", "n6f", "n7g", "n8h", "n9i", "n1j"};

    private RunBoundaryTest() {
        super("RunBoundaryTest");
    }

    private static TracedBuild ranOnce(String... texts) {
        TracedBuild x = scripted(texts);
        x.run(0);
        return x;
    }

    /** What the second of two runs makes of the only command, when the file was changed between them. */
    private void second(String what, TracedBuild x, int file, int[] numbers, int outcome) {
        x.remove(file);
        if (numbers != GONE) {
            put(x, file, numbers);
        }
        x.run(0);
        did(what, x, outcome);
    }

    private void checkTenCommands() {
        sentence("THE SCRIPT has at most 10 commands 0, 1, ..");
        TracedBuild x = new TracedBuild();
        for (int k = 0; k < 10; k++) {
            due("number", command(x, TEN[k]), k);
        }
        type(x, "n9l");
        throwing("an eleventh", IllegalStateException.class, x::command);
        due("commands", x.commands(), 10);
        x.run(0);
        did("ten are done", x, 1, 1, 1, 1, 1, 1, 1, 1, 1, 1, -1);
        file("the tenth", x, J, 1);
        gone("the eleventh", x, L);
        x.drop(0);
        due("one fits in again", x.command(), 9);
    }

    private void checkWhatWasRead() {
        sentence("what it READ (files with what they had, or that they were not there)");
        second("the same", done("cab", row(1, 2)), A, row(1, 2), 2);
        second("another first", done("cab", row(1, 2)), A, row(2, 2), 1);
        second("another last", done("cab", row(1, 2, 3, 4, 5, 6)), A, row(1, 2, 3, 4, 5, 7), 1);
        second("one more", done("cab", row(1, 2)), A, row(1, 2, 0), 1);
        second("one fewer", done("cab", row(1, 0)), A, row(1), 1);
        second("another order", done("cab", row(1, 2)), A, row(2, 1), 1);
        second("not there now", done("cab", row(1)), A, GONE, 1);
        second("not there then", done("cab", GONE), A, row(1), 1);
        second("not there both times", done("cab", GONE), A, GONE, 2);
        second("without numbers then, not there now", done("cab", EMPTY), A, GONE, 1);
        TracedBuild x = ranOnce("xa", "cab");
        edit(x, 0, "cla");
        x.run(0);
        did("not there then, without numbers now", x, 1, 1);
        due("not there then, without numbers now: why", x.why(1), A);
        second("read by ? alone, the first the same", done("?an1b", row(1, 2)), A, row(1, 3), 1);
        second("read by ? that did not go on", done("?an1b", row(0)), A, row(0, 0), 1);
        second("not read as ? did not go on", done("?acbc", row(0), row(1)), B, row(2), 2);
        second("the last file", done("cla"), L, row(1), 1);
        second("one not read", done("cab", row(1)), C, row(1), 2);
    }

    private void checkWhatWasAsked() {
        sentence("what it ASKED for (files, whether they were there)");
        second("there both times, other numbers", done("pab", row(1)), A, row(2, 3), 2);
        second("without numbers then", done("pab", EMPTY), A, row(2, 3), 2);
        second("not there now", done("pab", row(1)), A, GONE, 1);
        second("not there then", done("pab", GONE), A, row(1), 1);
        second("not there both times", done("pab", GONE), A, GONE, 2);
        second("l: the first file", done("lb"), A, row(1), 1);
        second("l: the last file", done("lb"), L, row(1), 1);
        second("l: other numbers", done("lb", row(1)), A, row(2), 1);
        TracedBuild x = ranOnce("lb");
        x.run(0);
        did("l: b was not there when it asked", x, 1);
        x.run(0);
        did("l: b was there then", x, 2);
        second("asked and read, other numbers", done("?apab", row(1)), A, row(2), 1);
        second("one not asked for", done("pab"), C, row(1), 2);
    }

    private void checkWhatWasWritten() {
        sentence("what it WROTE (at most one file, with what it has since, or that it is not there; nothing, where a ? did not go on)");
        second("it is so", done("cab", row(1, 2)), B, row(1, 2), 2);
        second("it has another number", done("cab", row(1, 2)), B, row(1, 3), 3);
        second("it has one more", done("cab", row(1, 2)), B, row(1, 2, 3), 3);
        second("it has one fewer", done("cab", row(1, 2)), B, row(1), 3);
        second("it is not there", done("cab", row(1, 2)), B, GONE, 3);
        second("it had none and is not there", done("cab", EMPTY), B, GONE, 3);
        second("it was to be gone and is", done("xb", GONE, row(1)), B, GONE, 2);
        second("it was to be gone and is not", done("xb", GONE, row(1)), B, row(1), 3);
        second("nothing was written", done("?an1b"), B, row(1), 2);
        TracedBuild x = done("cab", EMPTY);
        second("no numbers", x, B, row(1), 3);
        file("no numbers are put back", x, B);
        TracedBuild y = done("cab", row(1, 2, 3, 4, 5, 6));
        second("six numbers", y, B, GONE, 3);
        file("six numbers are put back", y, B, 1, 2, 3, 4, 5, 6);
        TracedBuild z = done("xb", GONE, row(1));
        second("not there", z, B, row(1), 3);
        gone("that is put back, too", z, B);
        TracedBuild w = done("?an1b");
        second("nothing", w, B, row(7), 2);
        file("nothing is put back", w, B, 7);
    }

    private void checkStoreOfTwentyFour() {
        sentence("THE STORE has at most 24 traces, the latest ones");
        TracedBuild x = scripted("cab");
        for (int i = 1; i <= 24; i++) {
            set(x, A, i);
            x.run(0);
            due("traces", x.traces(), i);
        }
        set(x, A, 1);
        x.run(0);
        did("with 24, the first is there still", x, 3);
        set(x, A, 25);
        x.run(0);
        due("traces", x.traces(), 24);
        did("the 25th ran", x, 1);
        set(x, A, 2);
        x.run(0);
        did("with 25, the second is there still", x, 3);
        set(x, A, 25);
        x.run(0);
        did("so is the latest", x, 3);
        set(x, A, 1);
        x.run(0);
        did("the first is not", x, 1);
        due("traces", x.traces(), 24);
        TracedBuild many = ranOnce(TEN);
        many.tear(5);
        for (int k = 0; k < 10; k++) {
            edit(many, k, "f" + (k == 9 ? 1 : 9) + "l" + (char) ('a' + k));
        }
        many.run(0);
        due("15", many.traces(), 15);
        for (int k = 0; k < 10; k++) {
            edit(many, k, "?l?ln1" + (char) ('a' + k));
        }
        many.run(0);
        due("25 are 24", many.traces(), 24);
        trace("the oldest fell out", many, 0, 3, 0, 0, B, 1);
        trace("the latest is the last", many, 23, 7, 2048, 0, -1, -1);
    }

    private void checkLatestTrace() {
        sentence("FITTING is the latest trace of its text by which");
        TracedBuild x = done("cab", row(1));
        edit(x, 0, "cac");
        x.run(0);
        did("a trace of another text does not count", x, 1);
        edit(x, 0, "cab");
        x.run(0);
        did("that of its own does", x, 2);
        edit(x, 0, "sab");
        x.run(0);
        did("of the same length, but another text", x, 1);
        edit(x, 0, "?acab");
        x.run(0);
        did("the same behind a ?", x, 1);
        due("no trace of its text", x.why(0), 12);
    }

    private void fatal(String what, TracedBuild x, int... parts) {
        due(what + ": run", x.run(0), 1);
        hazard(what, x, parts);
    }

    private void none(String what, TracedBuild x) {
        due(what + ": run", x.run(0), 0);
        noHazard(what, x);
    }

    private void checkBothWritten() {
        sentence("1 both have written one file");
        fatal("the first file", scripted("n1a", "n2a"), 1, 0, 1, A);
        fatal("the last file", scripted("n1l", "n2l"), 1, 0, 1, L);
        fatal("the same numbers", scripted("n1a", "n1a"), 1, 0, 1, A);
        fatal("taken away twice", scripted("xa", "xa"), 1, 0, 1, A);
        fatal("the first and the last command", scripted("n1l", "n2b", "n3c", "n4d", "n5e", "n6f", "n7g", "n8h", "n9i", "xl"),
            1, 0, 9, L);
        none("two files", scripted("n1a", "n2b"));
        none("one did not go on", scripted("n1a", "?ln2a"));
        none("the other did not go on", scripted("?ln2a", "n1a"));
    }

    private void checkReadThenWritten() {
        sentence("2 e has read a file, f writes it; or e has asked for one, and f changes whether it is there");
        fatal("read by c", scripted("cab", "n1a"), 2, 0, 1, A);
        fatal("read as the second", scripted("jalb", "n1l"), 2, 0, 1, L);
        fatal("read, and what is written is the same", with(row(1), "cab", "n1a"), 2, 0, 1, A);
        fatal("read, not there, and taken away", scripted("cab", "xa"), 2, 0, 1, A);
        fatal("read by ?", scripted("?axb", "n1a"), 2, 0, 1, A);
        none("not read as ? did not go on", scripted("?lcab", "n1a"));
        none("written by itself", scripted("caa", "n1b"));
        fatal("asked for, comes", scripted("pab", "n1a"), 2, 0, 1, A);
        fatal("asked for, comes without numbers", scripted("pab", "cla"), 2, 0, 1, A);
        fatal("asked for, goes", with(row(1), "pab", "xa"), 2, 0, 1, A);
        none("asked for, there before and behind", with(row(1), "pab", "n2a"));
        none("asked for, not there before and behind", scripted("pab", "xa"));
        fatal("listed, the last file comes", scripted("lb", "n1l"), 2, 0, 1, L);
        fatal("listed, the first file goes", with(row(1), "lb", "xa"), 2, 0, 1, A);
        none("written, then read", scripted("n1a", "cab"));
        none("written, then asked for", scripted("n1a", "pab", "lc"));
        TracedBuild x = with(row(1), "pab", "xa");
        x.run(0);
        none("asked for, what was skipped changes nothing", x);
        TracedBuild y = with(row(1), "pab", "xa");
        y.run(0);
        put(y, A, 1);
        fatal("asked for, what is restored goes", y, 2, 0, 1, A);
        did("both by their traces", y, 2, 3);
    }

    private static TracedBuild with(int[] a, String... texts) {
        TracedBuild x = scripted(texts);
        put(x, A, a);
        return x;
    }

    /** A run without file a has taught that the commands with ?a do nothing more; now a is there. */
    private static TracedBuild taught(String... texts) {
        TracedBuild x = ranOnce(texts);
        put(x, A, 1);
        return x;
    }

    private void once(String what, TracedBuild x, int spare, int answer, int again) {
        due(what + ": run", x.run(spare), answer);
        due(what + ": again", x.again(), again);
    }

    private void checkBehindInScript() {
        sentence("3 e comes behind f in the script, and e has written a file that f reads; "
            + "or has changed whether one is there for which f asks");
        // Command 2 goes ahead of command 1, which by its trace reads and asks for nothing but a.
        once("f reads", taught("n1l", "?acbd", "n2b"), 1, 1, 1);
        once("f reads another", taught("n1l", "?acbd", "n2c"), 1, 0, 0);
        TracedBuild x = taught("n1l", "?apbd", "n2b");
        x.remove(B);
        once("f asks, it came", x, 1, 1, 1);
        once("f asks, it was there", taught("n1l", "?apbd", "n2b"), 1, 0, 0);
        TracedBuild y = taught("n1l", "?apbd", "xb");
        once("f asks, it was not there", y, 1, 0, 0);
        TracedBuild z = taught("n1l", "?apbd", "xb");
        put(z, B, 1);
        once("f asks, it went", z, 1, 1, 1);
        once("in front of f it is no hazard", scripted("n1b", "cbd", "pbe", "lf"), 0, 0, 0);
    }

    private void checkSpeculative() {
        sentence("It is SPECULATIVE if e or f was done ahead of its turn, else FATAL");
        once("neither", taught("n1b", "n2c", "?an3b"), 0, 1, 0);
        once("f ahead", taught("n1b", "n2c", "?an3b"), 1, 1, 1);
        once("e ahead", taught("n1l", "?an1b", "n2b"), 1, 1, 1);
        once("both ahead", taught("n1l", "n2c", "n3b", "?an4b"), 2, 1, 1);
        TracedBuild x = ranOnce("n1a", "n1b", "n2c");
        edit(x, 1, "xa");
        x.run(0);
        once("another one ahead", x, 1, 1, 0);
        did("another one ahead", x, 3, 3, 6);
    }

    private void checkWhichCounts() {
        sentence("When f was done, a speculative one counts before a fatal one; then, of several e, that of the first in the script; "
            + "of several kinds the first one");
        once("speculative before fatal", taught("cbd", "?an1b", "cbe"), 1, 1, 1);
        fatal("fatal, without hands", taught("cbd", "?an1b", "cbe"), 2, 0, 1, B);
        fatal("the first of three", scripted("cld", "cle", "clf", "n1l"), 2, 0, 3, L);
        fatal("kind 2 with the first, kind 1 with the second", with(row(1), "pab", "n1a", "xa"), 2, 0, 2, A);
        fatal("kind 1 with the first, kind 2 with the second", scripted("n1b", "cbd", "n2b"), 1, 0, 2, B);
        fatal("of one e, kind 1 before kind 2", scripted("jaaa", "n1a"), 1, 0, 1, A);
        fatal("of one e that asks, kind 1 before kind 2", scripted("pbb", "xb"), 1, 0, 1, B);
    }

    private void checkSpare() {
        sentence("at most SPARE times");
        for (int spare = 0; spare <= 4; spare++) {
            TracedBuild x = ranOnce(TEN);
            edit(x, 1, "xa");
            x.run(0);
            // The fatal hazard in turn 1 lets us see what was done ahead behind turn 0 alone.
            due("fatal", x.run(spare), 1);
            for (int k = 2; k < 10; k++) {
                due("spare " + spare + ": did(" + k + ")", x.did(k), k < 2 + spare ? 6 : 0);
            }
        }
        TracedBuild few = ranOnce("n1a", "n2b", "n3c");
        due("more hands than commands", few.run(4), 0);
        did("more hands than commands", few, 2, 2, 6);
    }

    private void checkBehindNext() {
        sentence("the first command j behind i + 1 that is not done");
        TracedBuild one = ranOnce("n1a");
        one.run(4);
        did("one command", one, 2);
        TracedBuild two = ranOnce("n1a", "n2b");
        two.run(4);
        did("i + 1 is not behind i + 1", two, 2, 2);
        TracedBuild three = ranOnce("n1a", "n2b", "n3c");
        three.run(4);
        did("i + 2 is", three, 2, 2, 6);
        TracedBuild ten = ranOnce(TEN);
        ten.run(1);
        did("behind turns without anything to do, too", ten, 2, 2, 6, 6, 6, 6, 6, 6, 6, 6);
    }

    private void checkHasTrace() {
        sentence("that has a trace of its text in the store .. m must have a trace of its text");
        TracedBuild known = ranOnce("n1a", "n2b", "n3c", "n4d");
        known.run(1);
        did("all known", known, 2, 2, 6, 6);
        TracedBuild j = ranOnce("n1a", "n2b", "n3c", "n4d");
        j.tear(3);
        j.run(4);
        did("j is not known", j, 2, 2, 6, 1);
        TracedBuild m = ranOnce("n1a", "n2b", "n3c", "n4d");
        edit(m, 1, "n9b");
        m.run(1);
        did("m is not known", m, 2, 1, 2, 6);
        TracedBuild other = ranOnce("n1a", "n2b", "n3c", "n4d");
        other.tear(2);
        other.run(4);
        did("j and m are not known", other, 2, 2, 1, 1);
        TracedBuild behind = ranOnce("n1a", "n2b", "n3c", "n4d");
        edit(behind, 0, "n9a");
        behind.run(1);
        did("who is done need not be known", behind, 1, 2, 6, 6);
    }

    private void ahead(String what, boolean ahead, String... texts) {
        TracedBuild x = scripted(texts);
        put(x, A, 1);
        put(x, B, 1);
        x.run(0);
        x.run(1);
        int last = texts.length - 1;
        due(what + ": did(" + last + ")", x.did(last) >= 4, ahead);
        due(what + ": again", x.again(), 0);
    }

    private void checkInTheWay() {
        sentence("neither writes what the other one reads, asks for, or writes");
        ahead("nothing in common", true, "xl", "cac", "cbd");
        ahead("m writes what j reads", false, "xl", "cac", "ccd");
        ahead("m writes what j asks for", false, "xl", "cac", "pcd");
        ahead("m writes what j asks for by l", false, "xl", "cac", "ld");
        ahead("j writes what m reads", false, "xl", "ckc", "n1k");
        ahead("j writes what m asks for", false, "xl", "pbc", "n1b");
        ahead("both write", false, "xl", "n1b", "n1b");
        ahead("both read", true, "xl", "cac", "cad");
        ahead("both ask", true, "xl", "pac", "pad");
        ahead("m reads, j asks", true, "xl", "cac", "pad");
        ahead("m asks, j reads", true, "xl", "pac", "cad");
        ahead("m writes nothing", true, "xl", "?kn1b", "n1b");
        ahead("j writes nothing", true, "xl", "n1b", "?kn1b");
        ahead("neither writes", true, "xl", "?kn1b", "?kn1b");
        ahead("m is not the next one", false, "xl", "cac", "ccd", "cde");
        ahead("the first and the last file", true, "n1l", "caj", "cbk");
    }

    private void checkByLatestTraces() {
        sentence("and that seems not to be in the way, by the latest traces of their texts");
        TracedBuild x = ranOnce("n1k", "?acbc", "cce");
        put(x, A, 1);
        x.run(0);
        x.run(1);
        did("m writes c by its latest trace", x, 2, 2, 2);
        x.remove(A);
        x.run(1);
        did("so it seems still, though an earlier one fits", x, 2, 2, 2);
        TracedBuild y = with(row(1), "n1k", "?acbc", "cce");
        y.run(0);
        y.remove(A);
        y.run(0);
        y.run(1);
        did("m writes nothing by its latest trace", y, 2, 2, 6);
        TracedBuild z = ranOnce("n1k", "cce", "?acbc");
        put(z, A, 1);
        z.run(0);
        due("j writes c by its latest trace", z.run(1), 1);
        due("so it waits", z.again(), 0);
        z.remove(A);
        z.run(0);
        z.run(1);
        did("though an earlier one fits", z, 2, 2, 2);
        z.tear(3);
        z.run(1);
        did("j writes nothing by the trace that is left", z, 2, 1, 6);
    }

    private void checkTraceTells() {
        sentence("In either case the trace says what it has read, asked for and written in this run");
        TracedBuild x = ranOnce("n1a", "n1a");
        due("both skipped", x.run(0), 1);
        did("both skipped", x, 2, 2);
        hazard("both skipped", x, 1, 0, 1, A);
        TracedBuild y = ranOnce("cab", "xa");
        due("read by who is skipped", y.run(0), 1);
        did("read by who is skipped", y, 2, 2);
        hazard("read by who is skipped", y, 2, 0, 1, A);
        TracedBuild z = ranOnce("n1a", "n2a");
        due("both restored", z.run(0), 1);
        did("both restored", z, 3, 3);
        hazard("both restored", z, 1, 0, 1, A);
    }

    private void checkDoneIsNotInTheWay() {
        sentence("of any command m between i and j that is not done");
        TracedBuild x = ranOnce("n1a", "n2b", "n3c", "ccd");
        due("with two hands", x.run(2), 0);
        did("2 is done, so 3 may follow", x, 2, 2, 6, 6);
        TracedBuild y = ranOnce("n1a", "n2b", "cbc", "n4d");
        y.run(1);
        did("2 must wait for 1, 3 need not", y, 2, 2, 2, 6);
        TracedBuild z = ranOnce("n1a", "n2b", "n3c", "cad");
        z.run(1);
        did("0 is done", z, 2, 2, 6, 6);
    }

    private void checkFatalEnds() {
        sentence("a fatal one ends the run (files stay as they are then, f being done)");
        TracedBuild x = scripted("n1a", "n2b", "n3a", "n4c");
        put(x, C, 7);
        due("run", x.run(0), 1);
        did("f is the last that is done", x, 1, 1, 1, 0);
        file("before f", x, B, 2);
        file("f", x, A, 3);
        file("behind f", x, C, 7);
        due("traces", x.traces(), 3);
        due("again", x.again(), 0);
        due("the last command may be f", scripted("n1a", "n2a").run(4), 1);
        TracedBuild hands = ranOnce("n1a", "n1b", "n2c", "n3d");
        edit(hands, 1, "xa");
        hands.run(0);
        due("with hands", hands.run(1), 1);
        did("nobody goes ahead behind f", hands, 3, 3, 6, 0);
    }

    private void checkOnceMore() {
        sentence("a speculative one too, but then all files become what they were when the run began (the store keeps what it has), "
            + "and it is run once more, without spare hands");
        TracedBuild x = taught("n1l", "?an1b", "n2b", "n3k");
        x.remove(L);
        x.remove(K);
        put(x, E, 5);
        due("run", x.run(2), 1);
        due("again", x.again(), 1);
        did("the second time, none ahead", x, 3, 3, 3, 0);
        gone("done ahead the first time alone", x, K);
        file("untouched", x, E, 5);
        due("traces: four, and that of ?an1b", x.traces(), 5);
        TracedBuild y = taught("n1l", "?an1b", "cbd", "xc");
        put(y, C, 6, 6);
        y.remove(D);
        due("run", y.run(2), 0);
        due("again", y.again(), 1);
        did("c was given back and is taken away again", y, 2, 3, 1, 3);
        file("d", y, D, 1);
        due("why", y.why(2), B);
        due("traces: four, those of ?an1b and cbd", y.traces(), 6);
    }

    private void checkFirstListed() {
        sentence("Of several exceptions that apply the first one listed is thrown");
        TracedBuild x = scripted(TEN);
        type(x, "q");
        throwing("command: none, and ten", IllegalArgumentException.class, x::command);
        type(x, "q");
        throwing("edit: no place, no command", IndexOutOfBoundsException.class, () -> x.edit(10));
        throwing("edit: a place, no command", IllegalArgumentException.class, () -> x.edit(9));
        TracedBuild y = new TracedBuild();
        throwing("edit: no place, no text", IndexOutOfBoundsException.class, () -> y.edit(0));
        throwing("run: -1, and none", IllegalArgumentException.class, () -> y.run(-1));
        throwing("run: 5, and none", IllegalArgumentException.class, () -> y.run(5));
        throwing("run: 4, and none", IllegalStateException.class, () -> y.run(4));
    }

    private void all() {
        part(this::checkTenCommands);
        part(this::checkWhatWasRead);
        part(this::checkWhatWasAsked);
        part(this::checkWhatWasWritten);
        part(this::checkStoreOfTwentyFour);
        part(this::checkLatestTrace);
        part(this::checkTraceTells);
        part(this::checkBothWritten);
        part(this::checkReadThenWritten);
        part(this::checkBehindInScript);
        part(this::checkSpeculative);
        part(this::checkWhichCounts);
        part(this::checkSpare);
        part(this::checkBehindNext);
        part(this::checkHasTrace);
        part(this::checkInTheWay);
        part(this::checkByLatestTraces);
        part(this::checkDoneIsNotInTheWay);
        part(this::checkFatalEnds);
        part(this::checkOnceMore);
        part(this::checkFirstListed);
        end();
    }

    public static void main(String[] args) {
        new RunBoundaryTest().all();
    }
}
