/** Promises 12 and 13: hazard and again, and the hazards and runs that are run once more, of which they tell. */
public final class HazardTest {
    private static TracedBuild withB(String... texts) {
        TracedBuild x = Check.scripted(texts);
        Check.put(x, Check.B, 1);
        return x;
    }

    private static void fatal(Check check, String what, TracedBuild x, int... parts) {
        check.due(what + ": run", x.run(0), 1);
        check.hazard(what, x, parts);
        check.due(what + ": not run once more", x.again(), 0);
    }

    private static void none(Check check, String what, TracedBuild x) {
        check.due(what + ": run", x.run(0), 0);
        check.noHazard(what, x);
    }

    private static void checkKinds(Check check) {
        fatal(check, "both write", Check.scripted("n1a", "n2a"), 1, 0, 1, 0);
        fatal(check, "both write the same", Check.scripted("n1a", "n1a"), 1, 0, 1, 0);
        fatal(check, "x writes, too", Check.scripted("xa", "n1a"), 1, 0, 1, 0);
        fatal(check, "x of nothing writes", Check.scripted("xa", "xa"), 1, 0, 1, 0);
        fatal(check, "read, then written", Check.scripted("cab", "n1a"), 2, 0, 1, 0);
        fatal(check, "read by ?, then written", Check.scripted("?acab", "n1a"), 2, 0, 1, 0);
        fatal(check, "read as second, then removed", Check.scripted("jabc", "xb"), 2, 0, 1, 1);
        fatal(check, "asked for, then there", Check.scripted("pbc", "n1b"), 2, 0, 1, 1);
        fatal(check, "asked for, then removed", withB("pbc", "xb"), 2, 0, 1, 1);
        fatal(check, "listed, then there", Check.scripted("lc", "n1l"), 2, 0, 1, 11);
        none(check, "asked for, written, there before", withB("pbc", "n7b"));
        none(check, "asked for, removed, not there before", Check.scripted("pbc", "xb"));
        none(check, "listed, written, there before", withB("lc", "n7b"));
        none(check, "written, then read", Check.scripted("n1a", "cab"));
        none(check, "written, then asked for", Check.scripted("n1a", "pab"));
        none(check, "both read", Check.scripted("cab", "cac"));
        none(check, "read and written by one", Check.scripted("jaaa"));
        none(check, "asked for and written by one", Check.scripted("lf"));
        none(check, "a ? that does not go on writes nothing", Check.scripted("?kn1a", "n2a"));
    }

    private static void checkWhichCounts(Check check) {
        fatal(check, "the first of several", Check.scripted("cbd", "cbe", "n1b"), 2, 0, 2, 1);
        fatal(check, "the first kind", Check.scripted("cbb", "n1b"), 1, 0, 1, 1);
        fatal(check, "the first command before the first kind", withB("pbc", "n1b", "xb"), 2, 0, 2, 1);
        fatal(check, "the run ends there", Check.scripted("n1a", "n2b", "n3a", "n4b"), 1, 0, 2, 0);
    }

    private static void checkEnd(Check check) {
        TracedBuild x = Check.scripted("n1a", "n2b", "n3a", "n4c");
        check.due("run", x.run(0), 1);
        check.did("what is behind is not done", x, 1, 1, 1, 0);
        check.due("why of what is not done", x.why(3), -1);
        check.file("f was done", x, Check.A, 3);
        check.gone("not done", x, Check.C);
        check.due("its trace is in the store", x.traces(), 3);
        for (int what : new int[] {-1, 4, 5, Integer.MIN_VALUE, Integer.MAX_VALUE}) {
            check.due("hazard(" + what + ")", x.hazard(what), -1);
        }
        check.due("run", x.run(0), 1);
        check.did("who is passed over is in the way as well", x, 3, 2, 3, 0);
        check.hazard("as before", x, 1, 0, 2, 0);
        TracedBuild skipped = Check.scripted("n1a", "n1a");
        skipped.run(0);
        check.due("run", skipped.run(0), 1);
        check.did("both skipped", skipped, 2, 2);
        check.hazard("both skipped", skipped, 1, 0, 1, 0);
        Check.edit(x, 2, "n3d");
        check.noHazard("the script was changed", x);
        check.due("run", x.run(0), 0);
        check.noHazard("no hazard now", x);
        TracedBuild dropped = Check.scripted("n1a", "n1a");
        dropped.run(0);
        dropped.drop(1);
        check.noHazard("the script was changed by drop", dropped);
        TracedBuild longer = Check.scripted("n1a", "n1a");
        longer.run(0);
        Check.command(longer, "xb");
        check.noHazard("the script was changed by command", longer);
    }

    /** A run with file a not there has taught that command 1 does nothing more; now a is there. */
    private static TracedBuild taught(String... texts) {
        TracedBuild x = Check.scripted(texts);
        x.run(0);
        Check.put(x, Check.A, 1);
        return x;
    }

    private static void checkOnceMoreToTheEnd(Check check) {
        TracedBuild x = taught("n1l", "?an1b", "cbd");
        check.due("came to its end the second time", x.run(1), 0);
        check.due("again", x.again(), 1);
        check.noHazard("the second time", x);
        check.did("the second time", x, 2, 3, 1);
        check.due("restored from the trace of the first time", x.why(1), -1);
        check.due("why", x.why(2), Check.B);
        check.file("d", x, Check.D, 1);
        check.due("the store keeps what it has", x.traces(), 5);
        check.due("run", x.run(1), 0);
        check.due("again is not counted up", x.again(), 1);
        check.did("now it is known", x, 2, 2, 2);
        Check.command(x, "xk");
        check.due("again stays when the script is changed", x.again(), 1);
    }

    private static void checkOnceMoreFatal(Check check) {
        TracedBuild x = taught("n1l", "?an1b", "n2b", "n3k");
        x.remove(Check.K);
        check.due("fatal the second time", x.run(2), 1);
        check.due("again", x.again(), 1);
        check.hazard("both write", x, 1, 1, 2, 1);
        check.did("the second time", x, 2, 3, 3, 0);
        check.gone("files became what they were when the run began", x, Check.K);
        check.file("and stay as they are then", x, Check.B, 2);
        TracedBuild y = taught("n1l", "?acbc", "n2b");
        check.due("kind 3, then kind 2", y.run(1), 1);
        check.hazard("the second hazard", y, 2, 1, 2, 1);
        check.did("the second time", y, 2, 3, 2);
        check.due("again", y.again(), 1);
    }

    private static void checkAskedAhead(Check check) {
        TracedBuild x = taught("n1l", "?apbc", "n2b");
        x.remove(Check.B);
        check.due("kind 3 by asking, then kind 2", x.run(1), 1);
        check.due("again", x.again(), 1);
        check.hazard("the second hazard", x, 2, 1, 2, 1);
        check.did("b was taken back, so it ran once more", x, 2, 1, 3);
        check.due("why", x.why(1), Check.B);
        check.file("not there the second time", x, Check.C, 0);
        TracedBuild y = taught("n1l", "?apbc", "n2b");
        Check.set(y, Check.B, 7);
        check.due("b was there before", y.run(1), 0);
        check.due("again", y.again(), 0);
        check.did("restored ahead, nobody minds", y, 2, 1, 7);
        TracedBuild z = taught("n1l", "?axb", "pbc");
        Check.put(z, Check.B, 1);
        check.due("asked ahead, then removed", z.run(1), 0);
        check.due("once more", z.again(), 1);
        check.file("not there the second time", z, Check.C, 0);
    }

    private static void checkSpeculativeFirst(Check check) {
        TracedBuild x = taught("cbd", "?an1b", "cbe");
        check.due("fatal and speculative at once", x.run(1), 1);
        check.due("the speculative one counts", x.again(), 1);
        check.hazard("the second time", x, 2, 0, 1, 1);
        check.did("the second time", x, 2, 3, 0);
        // Command 2 learnt that it does nothing; done ahead it meets command 0, which was done in its turn.
        TracedBuild y = taught("n1b", "n2c", "?an3b");
        check.due("f is the one ahead", y.run(1), 1);
        check.due("speculative", y.again(), 1);
        check.hazard("the second time in turn", y, 1, 0, 2, 1);
        check.did("the second time, b being what it was", y, 2, 2, 3);
        TracedBuild z = taught("n1b", "n2c", "?an3b");
        check.due("without hands", z.run(0), 1);
        check.due("it is fatal at once", z.again(), 0);
        check.did("the first time", z, 2, 2, 1);
    }

    private static void checkManyAgain(Check check) {
        TracedBuild x = Check.scripted("n1l", "?an1b", "cbd");
        for (int round = 1; round <= 5; round++) {
            x.remove(Check.A);
            x.remove(Check.B);
            x.tear(0);
            x.run(0);
            Check.put(x, Check.A, round);
            x.run(4);
            check.due("again", x.again(), round);
        }
    }

    public static void main(String[] args) {
        Check check = new Check("HazardTest");
        checkKinds(check);
        checkWhichCounts(check);
        checkEnd(check);
        checkOnceMoreToTheEnd(check);
        checkOnceMoreFatal(check);
        checkAskedAhead(check);
        checkSpeculativeFirst(check);
        checkManyAgain(check);
        check.end();
    }
}
