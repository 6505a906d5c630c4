/** Promises 9 to 11: run, did, why, and which commands are done ahead of their turn. */
public final class RunTest {
    private static void checkRefusals(Check check) {
        TracedBuild x = Check.scripted("n1a");
        for (int spare : new int[] {-1, 5, Integer.MIN_VALUE, Integer.MAX_VALUE}) {
            check.throwing("run(" + spare + ")", IllegalArgumentException.class, () -> x.run(spare));
            check.throwing("run(" + spare + ") of nothing", IllegalArgumentException.class,
                () -> new TracedBuild().run(spare));
        }
        check.did("a refused run is none", x, -1);
        check.gone("a refused run does nothing", x, Check.A);
        for (int spare = 0; spare <= 4; spare++) {
            check.throwing("run(" + spare + ") of nothing", IllegalStateException.class, () -> new TracedBuild().run(0));
            check.due("run(" + spare + ")", x.run(spare), 0);
        }
        check.did("the latest run", x, 2);
        check.throwing("run(9)", IllegalArgumentException.class, () -> x.run(9));
        check.did("a refused run leaves what is told", x, 2);
    }

    private static void checkOutcomes(Check check) {
        TracedBuild x = Check.scripted("cab", "xc");
        Check.put(x, Check.A, 1);
        Check.put(x, Check.C, 1);
        x.run(0);
        check.did("ran", x, 1, 1, -1);
        check.due("did(-1)", x.did(-1), -1);
        check.due("did(MAX)", x.did(Integer.MAX_VALUE), -1);
        check.due("did(MIN)", x.did(Integer.MIN_VALUE), -1);
        x.run(0);
        check.did("skipped", x, 2, 2);
        Check.put(x, Check.B, 9);
        Check.put(x, Check.C, 9);
        x.run(0);
        check.did("restored", x, 3, 3);
        check.file("put back", x, Check.B, 1);
        check.gone("taken away again", x, Check.C);
        x.remove(Check.B);
        x.run(0);
        check.did("what was removed is restored", x, 3, 2);
        check.file("put back", x, Check.B, 1);
        Check.set(x, Check.A, 2);
        x.run(0);
        check.did("ran anew", x, 1, 2);
        Check.set(x, Check.A, 1);
        x.run(0);
        check.did("an older trace fits", x, 3, 2);
        check.file("put back from it", x, Check.B, 1);
        check.due("no trace for that", x.traces(), 3);
        x.remove(Check.A);
        x.run(0);
        check.did("not there is another", x, 1, 2);
        check.file("not there is read as empty", x, Check.B);
        x.remove(Check.B);
        x.run(0);
        check.did("an empty file is restored", x, 3, 2);
        check.file("empty, but there", x, Check.B);
    }

    private static void checkNotThereIsNotEmpty(Check check) {
        TracedBuild x = Check.scripted("cab", "cbc");
        x.run(0);
        check.did("first", x, 1, 1);
        Check.edit(x, 0, "xb");
        x.run(0);
        check.did("b was empty and is not there now", x, 1, 1);
        check.due("why", x.why(1), Check.B);
        TracedBuild y = Check.scripted("pab");
        Check.put(y, Check.A, 1);
        y.run(0);
        Check.set(y, Check.A, 5, 6);
        y.run(0);
        check.did("only asked for: other numbers do not count", y, 2);
        y.remove(Check.A);
        y.run(0);
        check.did("only asked for: whether it is there counts", y, 1);
        TracedBuild z = Check.scripted("?an1b");
        z.run(0);
        z.put(Check.B, (short) 7);
        z.run(0);
        check.did("who wrote nothing has nothing to put back", z, 2);
        check.file("untouched", z, Check.B, 7);
    }

    private static void checkToldUntilChange(Check check) {
        TracedBuild x = Check.scripted("n1a", "n2b");
        x.run(0);
        x.tear(1);
        x.compact();
        x.type('q');
        check.did("told", x, 1, 1);
        check.due("why told", x.why(0), 12);
        check.throwing("no command", IllegalArgumentException.class, x::command);
        check.throwing("no drop", IndexOutOfBoundsException.class, () -> x.drop(5));
        check.did("told when calls throw", x, 1, 1);
        Check.command(x, "n3c");
        check.did("not told behind command", x, -1, -1, -1);
        check.due("why not told", x.why(0), -1);
        x.run(0);
        check.did("told again, the store stayed", x, 2, 1, 1);
        Check.edit(x, 1, "n2b");
        check.did("not told behind edit to the same text", x, -1, -1, -1);
        x.run(0);
        check.did("and the trace fits", x, 2, 2, 2);
        x.drop(2);
        check.did("not told behind drop", x, -1, -1, -1);
    }

    private static void checkWhy(Check check) {
        TracedBuild x = Check.scripted("jbac", "?dpeg");
        Check.put(x, Check.D, 1);
        x.run(0);
        check.due("no trace", x.why(0), 12);
        check.due("no such command", x.why(2), -1);
        check.due("no such command", x.why(-1), -1);
        x.run(0);
        check.due("skipped", x.why(0), -1);
        Check.put(x, Check.A, 1);
        Check.put(x, Check.B, 1);
        Check.put(x, Check.D, 1);
        Check.put(x, Check.E, 1);
        x.run(0);
        check.due("the first of two that were read", x.why(0), Check.A);
        check.due("read before asked for", x.why(1), Check.D);
        Check.put(x, Check.B, 1);
        x.remove(Check.E);
        x.run(0);
        check.due("the other of two", x.why(0), Check.B);
        check.due("only asked for", x.why(1), Check.E);
        x.remove(Check.C);
        x.run(0);
        check.did("restored", x, 3, 2);
        check.due("restored", x.why(0), -1);
        x.tear(0);
        x.run(0);
        check.due("the trace was lost", x.why(0), 12);
        TracedBuild y = Check.scripted("?apba", "lh");
        y.run(0);
        Check.put(y, Check.K, 1);
        Check.put(y, Check.F, 1);
        y.run(0);
        check.due("the first of those asked for", y.why(1), Check.F);
    }

    private static void checkWhyIsOfLatest(Check check) {
        TracedBuild x = Check.scripted("jabc");
        Check.set(x, Check.A, 1);
        Check.set(x, Check.B, 1);
        x.run(0);
        Check.set(x, Check.A, 2);
        x.run(0);
        Check.set(x, Check.B, 2);
        x.run(0);
        check.due("by the latest trace only b is another", x.why(0), Check.B);
        Check.set(x, Check.A, 9);
        check.due("told as it was in the run", x.why(0), Check.B);
        TracedBuild full = Check.scripted("cab", "caa");
        full.drop(1);
        for (int i = 0; i < 24; i++) {
            Check.set(full, Check.C, i);
            Check.edit(full, 0, i == 0 ? "cab" : "ccd");
            full.run(0);
        }
        check.due("the store is full", full.traces(), 24);
        Check.edit(full, 0, "cab");
        Check.put(full, Check.A, 4);
        full.run(0);
        check.due("the latest trace is the very one that falls out", full.why(0), Check.A);
    }

    private static TracedBuild ranOnce(String... texts) {
        TracedBuild x = Check.scripted(texts);
        x.run(0);
        return x;
    }

    private static void checkAhead(Check check) {
        String[] five = {"n1a", "n2b", "n3c", "n4d", "n5e"};
        int[][] due = {{2, 2, 2, 2, 2}, {2, 2, 6, 6, 6}, {2, 2, 6, 6, 6}, {2, 2, 6, 6, 6}, {2, 2, 6, 6, 6}};
        for (int spare = 0; spare <= 4; spare++) {
            TracedBuild x = ranOnce(five);
            x.run(spare);
            check.did("spare " + spare, x, due[spare]);
        }
        TracedBuild fresh = Check.scripted(five);
        fresh.run(4);
        check.did("nothing is known of new commands", fresh, 1, 1, 1, 1, 1);
        TracedBuild two = ranOnce("n1a", "n2b");
        two.run(4);
        check.did("the next one is never ahead", two, 2, 2);
        TracedBuild restored = ranOnce(five);
        restored.remove(Check.C);
        restored.run(1);
        check.did("restored ahead", restored, 2, 2, 7, 6, 6);
        TracedBuild ran = ranOnce("n1a", "n2b", "ccd");
        Check.put(ran, Check.C, 7);
        ran.run(1);
        check.did("ran ahead", ran, 2, 2, 5);
        check.due("why it ran ahead", ran.why(2), Check.C);
    }

    private static void checkHowMany(Check check) {
        String[] texts = {"n1a", "n2b", "n3c", "n4d", "n5e", "n6f", "n7g", "n8h", "n9i", "n1j"};
        TracedBuild x = ranOnce(texts);
        // A fatal hazard in turn 1 ends each run, so that only what went ahead behind turn 0 is done.
        for (int spare = 0; spare <= 4; spare++) {
            Check.edit(x, 1, spare % 2 == 0 ? "xa" : "n9a");
            x.run(0);
            check.due("fatal", x.run(spare), 1);
            for (int k = 2; k < 10; k++) {
                check.due("spare " + spare + ": did(" + k + ")", x.did(k), 2 <= k && k < 2 + spare ? 6 : 0);
            }
        }
    }

    private static void checkInTheWay(Check check) {
        aheadOrNot(check, "m writes what j reads", "n2b", "cbc", false);
        aheadOrNot(check, "m reads what j asks for", "cbc", "pbd", true);
        aheadOrNot(check, "m writes what j asks for", "n2b", "pbc", false);
        aheadOrNot(check, "m writes what j asks for among all", "n2b", "lc", false);
        aheadOrNot(check, "both read", "cbc", "cbd", true);
        aheadOrNot(check, "both ask", "pbc", "pbd", true);
        aheadOrNot(check, "nothing in common", "cbc", "cde", true);
        TracedBuild x = ranOnce("n1a", "?kcbc", "n2b");
        x.run(1);
        check.did("m did not read b, by its trace", x, 2, 2, 6);
        TracedBuild y = Check.scripted("n1a", "cbc", "n2b");
        y.run(0);
        check.due("m reads what j writes", y.run(1), 1);
        check.did("not ahead", y, 2, 1, 2);
        check.due("not run once more", y.again(), 0);
        TracedBuild z = Check.scripted("n1a", "pbc", "n2b");
        z.run(0);
        check.due("m asks for what j writes", z.run(1), 0);
        check.did("not ahead", z, 2, 1, 2);
        TracedBuild w = Check.scripted("n1a", "n3b", "n2b");
        w.run(0);
        check.due("both write", w.run(1), 1);
        check.did("not ahead", w, 2, 3, 3);
        check.due("not run once more", w.again(), 0);
        TracedBuild same = ranOnce("n1a", "?bn1c", "?bn1c");
        same.run(1);
        check.did("the same text twice that writes nothing", same, 2, 2, 6);
    }

    private static void aheadOrNot(Check check, String what, String m, String j, boolean ahead) {
        TracedBuild x = ranOnce("n1k", m, j);
        x.run(0);
        x.run(1);
        check.did(what, x, 2, 2, ahead ? 6 : 2);
    }

    private static void checkWhoIsFirst(Check check) {
        TracedBuild x = ranOnce("n1a", "n2b", "cbc", "n4d", "cde");
        x.run(1);
        check.did("past one that is in the way", x, 2, 2, 2, 6, 6);
        TracedBuild chain = ranOnce("n1a", "n2b", "n3c", "ccd");
        chain.run(2);
        check.did("one that is done is in nobody's way", chain, 2, 2, 6, 6);
        TracedBuild lost = ranOnce("n1a", "n2b", "n3c", "n4d");
        Check.edit(lost, 1, "n9b");
        lost.run(4);
        check.did("past one without a trace nobody goes", lost, 2, 1, 2, 6);
        TracedBuild unknown = ranOnce("n1a", "n2b", "n3c", "n4d", "n5e");
        Check.edit(unknown, 3, "n9d");
        unknown.run(4);
        check.did("one without a trace waits, and all behind it", unknown, 2, 2, 6, 1, 2);
        TracedBuild torn = ranOnce("n1a", "n2b", "n3c", "n4d");
        torn.tear(2);
        torn.run(4);
        check.did("a torn store knows less", torn, 2, 2, 1, 1);
        TracedBuild latest = Check.scripted("n1k", "?acbc", "n2d");
        latest.run(0);
        Check.put(latest, Check.A, 1);
        latest.run(0);
        Check.edit(latest, 2, "cce");
        latest.run(0);
        latest.run(1);
        check.did("the latest trace counts: m writes c", latest, 2, 2, 2);
        latest.remove(Check.A);
        latest.run(1);
        check.did("the latest, not the fitting one", latest, 2, 2, 2);
    }

    public static void main(String[] args) {
        Check check = new Check("RunTest");
        checkRefusals(check);
        checkOutcomes(check);
        checkNotThereIsNotEmpty(check);
        checkToldUntilChange(check);
        checkWhy(check);
        checkWhyIsOfLatest(check);
        checkAhead(check);
        checkHowMany(check);
        checkInTheWay(check);
        checkWhoIsFirst(check);
        check.end();
    }
}
