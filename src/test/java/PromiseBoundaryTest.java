/** Promises 1 to 19: every sentence that names a boundary case, on both its sides. */
public final class PromiseBoundaryTest extends Check {
    private static final Class<?> ARGUMENT = IllegalArgumentException.class;
    private static final Class<?> STATE = IllegalStateException.class;
    private static final Class<?> INDEX = IndexOutOfBoundsException.class;
    private static final int MIN = Integer.MIN_VALUE, MAX = Integer.MAX_VALUE;
    private static final String[] TEN = {"n1a", "n2b", "n3c", "n4d", "n5e", "n6f", "n7g", "n8h", "n9i", "n1j"};

    private PromiseBoundaryTest() {
        super("PromiseBoundaryTest");
    }

    private static TracedBuild ranOnce(String... texts) {
        TracedBuild x = scripted(texts);
        x.run(0);
        return x;
    }

    private void checkNewObject() {
        sentence("1: No files, no commands, no traces, no run");
        TracedBuild x = new TracedBuild();
        for (int file = 0; file < 12; file++) {
            gone("file " + file, x, file);
        }
        due("commands", x.commands(), 0);
        due("traces", x.traces(), 0);
        due("did(0)", x.did(0), -1);
        due("why(0)", x.why(0), -1);
        noHazard("no run", x);
        due("again", x.again(), 0);
        throwing("no text: command", ARGUMENT, x::command);
        throwing("no text: it was empty and takes a whole one", null, () -> command(x, "?a?b?c?d?exf"));
        due("the first number", x.commands(), 1);
    }

    private void checkType() {
        sentence("2: Appends a character (any one) to the text at hand");
        for (int from = 0; from <= 0xFFFF; from += 12) {
            TracedBuild x = new TracedBuild();
            for (int c = from; c < from + 12 && c <= 0xFFFF; c++) {
                due("type " + c, x.type((char) c), true);
            }
        }
        sentence("2: false, refused, if it has 12");
        TracedBuild x = new TracedBuild();
        for (int i = 1; i <= 12; i++) {
            due("character " + i, x.type("?a?b?c?d?exf".charAt(i - 1)), true);
        }
        due("character 13", x.type('f'), false);
        due("character 14", x.type('\0'), false);
        due("the twelve are as they were", x.command(), 0);
        for (int i = 1; i <= 12; i++) {
            due("character " + i + " of the next", x.type('q'), true);
        }
        due("character 13 of the next", x.type('q'), false);
    }

    private void checkCommand() {
        sentence("3: The text at hand becomes the next command: its number; then the text is empty");
        TracedBuild x = new TracedBuild();
        due("the first", command(x, "n1a"), 0);
        throwing("the text is empty", ARGUMENT, x::command);
        due("the second", command(x, "n2b"), 1);
        x.run(0);
        file("the first", x, A, 1);
        file("the second", x, B, 2);
        sentence("3: IllegalArgumentException, first, if it is no command (the text is empty then, too)");
        type(x, "n2");
        throwing("no command", ARGUMENT, x::command);
        type(x, "b");
        throwing("it was emptied", ARGUMENT, x::command);
        due("commands", x.commands(), 2);
        TracedBuild full = scripted(TEN);
        type(full, "xx");
        throwing("no command, and there are 10", ARGUMENT, full::command);
        type(full, "xl");
        throwing("it was emptied", STATE, full::command);
        throwing("nothing, and there are 10", ARGUMENT, () -> {
            full.edit(0);
            full.command();
        });
        sentence("3: IllegalStateException if there are 10 (the text stays)");
        TracedBuild nine = scripted("n1a", "n2b", "n3c", "n4d", "n5e", "n6f", "n7g", "n8h", "n9i");
        due("there are 9", command(nine, "n1j"), 9);
        type(nine, "n7l");
        throwing("there are 10", STATE, nine::command);
        throwing("there are 10 still", STATE, nine::command);
        due("commands", nine.commands(), 10);
        nine.drop(9);
        due("the text stayed", nine.command(), 9);
        nine.run(0);
        file("the text stayed", nine, L, 7);
    }

    private void checkEdit() {
        sentence("4: The text at hand takes the place of command k; then the text is empty");
        for (int k = 0; k < 10; k += 9) {
            TracedBuild x = scripted(TEN);
            edit(x, k, "n9l");
            due("commands", x.commands(), 10);
            throwing("the text is empty", ARGUMENT, x::command);
            x.run(0);
            file("edited " + k, x, L, 9);
            due("the first", x.size(A), k == 0 ? -1 : 1);
            due("the last", x.size(J), k == 9 ? -1 : 1);
        }
        sentence("4: IndexOutOfBoundsException if there is no such command (the text stays)");
        TracedBuild x = scripted("n1a", "n2b");
        type(x, "n3c");
        for (int k : new int[] {-1, 2, 9, 10, MIN, MAX}) {
            throwing("edit(" + k + ")", INDEX, () -> x.edit(k));
        }
        throwing("edit(1), the text stayed", null, () -> x.edit(1));
        x.run(0);
        file("edited", x, C, 3);
        gone("not any more", x, B);
        TracedBuild none = new TracedBuild();
        type(none, "n3c");
        throwing("edit(0) of none", INDEX, () -> none.edit(0));
        due("the text stayed", none.command(), 0);
        sentence("4: IllegalArgumentException if it is no command (the text is empty then, too)");
        type(x, "n1");
        throwing("edit(0), no command", ARGUMENT, () -> x.edit(0));
        type(x, "d");
        throwing("it was emptied", ARGUMENT, () -> x.edit(0));
        throwing("an empty one", ARGUMENT, () -> x.edit(1));
        did("nothing was changed", x, 1, 1);
        type(x, "q");
        throwing("edit(2), no command: the text stays", INDEX, () -> x.edit(2));
        throwing("edit(1), the text stayed", ARGUMENT, () -> x.edit(1));
        throwing("and was emptied then", null, () -> edit(x, 1, "xa"));
    }

    private void checkDrop() {
        sentence("5: Command k falls out; those behind are numbered anew");
        for (int k = 0; k < 3; k++) {
            TracedBuild x = scripted("n1a", "n2b", "n3c");
            x.drop(k);
            due("commands", x.commands(), 2);
            x.run(0);
            for (int file = 0; file < 3; file++) {
                due("drop(" + k + "): size(" + file + ")", x.size(file), file == k ? -1 : 1);
            }
            did("drop(" + k + ")", x, 1, 1, -1);
            edit(x, 1, "n4d");
            x.run(0);
            due("drop(" + k + "): the last is now 1", x.did(0), 2);
            due("drop(" + k + "): the next number", command(x, "n5e"), 2);
        }
        TracedBuild full = scripted(TEN);
        full.drop(9);
        due("the tenth", full.commands(), 9);
        due("a tenth again", command(full, "n1l"), 9);
        sentence("5: IndexOutOfBoundsException if there is none");
        TracedBuild x = scripted("n1a", "n2b");
        for (int k : new int[] {-1, 2, 9, 10, MIN, MAX}) {
            throwing("drop(" + k + ")", INDEX, () -> x.drop(k));
        }
        due("commands", x.commands(), 2);
        throwing("drop(1)", null, () -> x.drop(1));
        throwing("drop(1) once more", INDEX, () -> x.drop(1));
        throwing("drop(0)", null, () -> x.drop(0));
        throwing("drop(0) of none", INDEX, () -> x.drop(0));
        throwing("drop(10) of ten", INDEX, () -> full.drop(10));
    }

    private void checkCommands() {
        sentence("6: How many commands there are");
        TracedBuild x = new TracedBuild();
        due("none", x.commands(), 0);
        for (int k = 0; k < 10; k++) {
            command(x, TEN[k]);
            due("more", x.commands(), k + 1);
        }
        for (int k = 9; k >= 0; k--) {
            x.drop(0);
            due("fewer", x.commands(), k);
        }
    }

    private void checkPut() {
        sentence("7: From outside: a file gets one number more (it is there then; what the latest run did is told still): how many it has");
        TracedBuild x = ranOnce("n1a", "n2a");
        for (int i = 1; i <= 6; i++) {
            due("put", x.put(L, (short) i), i);
        }
        file("in their order", x, L, 1, 2, 3, 4, 5, 6);
        did("told still", x, 1, 1);
        hazard("told still", x, 1, 0, 1, A);
        due("told still", x.why(0), 12);
        TracedBuild empty = having(EMPTY);
        due("one without numbers", empty.put(A, (short) 5), 1);
        sentence("7: -1, refused, if there is no such file or it has six");
        due("it has six", x.put(L, (short) 7), -1);
        due("it has six still", x.put(L, (short) 7), -1);
        file("refused", x, L, 1, 2, 3, 4, 5, 6);
        for (int file : new int[] {-1, 12, 13, MIN, MAX}) {
            due("put(" + file + ")", x.put(file, (short) 7), -1);
        }
        due("put(0)", x.put(0, (short) 7), 2);
        due("its neighbour", x.size(K), -1);
    }

    private void checkRemove() {
        sentence("8: From outside: a file is not there any more");
        TracedBuild x = having(row(1, 2, 3, 4, 5, 6), EMPTY);
        put(x, L, 1);
        due("with six", x.remove(A), true);
        due("without any", x.remove(B), true);
        due("the last", x.remove(L), true);
        gone("a", x, A);
        gone("b", x, B);
        gone("l", x, L);
        sentence("8: false, refused, if there is none such, or it is not there");
        due("not there any more", x.remove(A), false);
        due("never there", x.remove(C), false);
        for (int file : new int[] {-1, 12, 13, MIN, MAX}) {
            due("remove(" + file + ")", x.remove(file), false);
        }
        due("it begins anew", x.put(A, (short) 9), 1);
        file("it begins anew", x, A, 9);
    }

    private void checkRun() {
        sentence("9: Runs the script: 0 if it came to its end (where it was run once more, the second time), 1 if there was a fatal hazard");
        due("to its end", scripted("n1a").run(0), 0);
        due("fatal", scripted("n1a", "n1a").run(0), 1);
        TracedBuild end = ranOnce("n1l", "?an1b", "cbd");
        put(end, A, 1);
        due("once more, to its end", end.run(1), 0);
        due("once more", end.again(), 1);
        TracedBuild fatal = ranOnce("n1l", "?an1b", "n2b");
        put(fatal, A, 1);
        due("once more, fatal", fatal.run(1), 1);
        due("once more", fatal.again(), 1);
        sentence("9: IllegalArgumentException if spare is not 0 .. 4");
        TracedBuild x = scripted("n1a");
        for (int spare : new int[] {-1, 5, MIN, MAX}) {
            throwing("run(" + spare + ")", ARGUMENT, () -> x.run(spare));
            throwing("run(" + spare + ") of none", ARGUMENT, () -> new TracedBuild().run(spare));
        }
        did("that was no run", x, -1);
        gone("that was no run", x, A);
        for (int spare = 0; spare <= 4; spare++) {
            due("run(" + spare + ")", x.run(spare), 0);
        }
        sentence("9: IllegalStateException if there are no commands");
        for (int spare = 0; spare <= 4; spare++) {
            int hands = spare;
            throwing("run(" + spare + ") of none", STATE, () -> new TracedBuild().run(hands));
        }
        x.drop(0);
        throwing("none any more", STATE, () -> x.run(0));
        command(x, "n1a");
        throwing("one", null, () -> x.run(0));
    }

    private void checkDid() {
        sentence("10: 0 it was not done, 1 it ran, 2 it was skipped, 3 it was restored; 4 more if it was done ahead");
        TracedBuild x = ranOnce("n1a", "n2b", "n3c", "cde", "n4g");
        did("ran", x, 1, 1, 1, 1, 1);
        x.remove(C);
        put(x, D, 1);
        x.remove(A);
        x.run(1);
        did("restored, skipped, restored ahead, ran ahead, skipped ahead", x, 3, 2, 7, 5, 6);
        TracedBuild fatal = ranOnce("n1a", "n2a", "n3b");
        did("not done", fatal, 1, 1, 0);
        sentence("10: (where that was run once more, in the second one)");
        TracedBuild more = ranOnce("n1l", "?an1b", "cbd");
        put(more, A, 1);
        more.run(1);
        did("none was ahead in the second one", more, 2, 3, 1);
    }

    private void checkDidNone() {
        sentence("10: -1 if there was no run since the script was changed (by command, edit or drop that did not throw; the store stays)");
        TracedBuild x = scripted("n1a", "n2b");
        did("no run", x, -1, -1);
        x.run(0);
        did("a run", x, 1, 1);
        command(x, "n3c");
        did("command", x, -1, -1, -1);
        x.run(0);
        did("a run, the store stayed", x, 2, 2, 1);
        edit(x, 1, "n2b");
        did("edit", x, -1, -1, -1);
        x.run(0);
        did("a run, the store stayed", x, 2, 2, 2);
        x.drop(2);
        did("drop", x, -1, -1);
        due("the store stayed", x.traces(), 3);
        x.run(0);
        type(x, "q");
        throwing("command", ARGUMENT, x::command);
        throwing("edit(2)", INDEX, () -> x.edit(2));
        throwing("edit(0)", ARGUMENT, () -> x.edit(0));
        throwing("drop(2)", INDEX, () -> x.drop(2));
        throwing("run(5)", ARGUMENT, () -> x.run(5));
        did("what throws changes nothing", x, 2, 2);
        x.tear(1);
        x.compact();
        x.put(A, (short) 1);
        x.remove(A);
        did("the script was not changed", x, 2, 2);
        TracedBuild full = ranOnce(TEN);
        type(full, "n1l");
        throwing("command", STATE, full::command);
        due("an eleventh changes nothing", full.did(9), 1);
        sentence("10: or there is no such command");
        for (int k : new int[] {-1, 2, 9, 10, MIN, MAX}) {
            due("did(" + k + ")", x.did(k), -1);
        }
        for (int k : new int[] {-1, 10, 11, MIN, MAX}) {
            due("did(" + k + ") of ten", full.did(k), -1);
        }
        due("did(0)", full.did(0), 1);
    }

    private void checkWhy() {
        sentence("11: Why command k ran in the latest run: 12 if there was no trace of its text");
        TracedBuild x = ranOnce("n1a");
        due("none", x.why(0), 12);
        x.tear(0);
        due("told still", x.why(0), 12);
        x.run(0);
        due("none any more", x.why(0), 12);
        sentence("11: else of the latest trace of its text then (before it ran) the first file that was read");
        due("the first file", whyOf("jalb", A, L), A);
        due("the last file", whyOf("jalb", L), L);
        due("the first of two, though read behind", whyOf("jlab", A, L), A);
        due("one that was not read does not count", whyOf("jkac", B, K), K);
        due("read by ?", whyOf("?kcal", K), K);
        TracedBuild latest = scripted("jabc");
        for (int file : new int[] {C, A, B}) {
            put(latest, file, 1);
            latest.run(0);
        }
        due("of the latest trace, not of the first", latest.why(0), B);
        put(latest, A, 2);
        due("it is told as it was then", latest.why(0), B);
        sentence("11: or if there is none asked for, and is another one now");
        due("asked for, the first", whyOf("lb", A, L), A);
        due("asked for, the last", whyOf("plb", L), L);
        due("asked for", whyOf("?kpac", A), A);
        due("read before asked for", whyOf("?kpac", A, K), K);
    }

    /** Why the command runs the second time, when these files got a number meanwhile; file k has one before. */
    private static int whyOf(String text, int... files) {
        TracedBuild x = scripted(text);
        put(x, K, 1);
        x.run(0);
        x.run(0);
        for (int file : files) {
            put(x, file, 1);
        }
        x.run(0);
        return x.why(0);
    }

    private void checkWhyNone() {
        sentence("11: -1 if it did not run (as did() says)");
        TracedBuild x = scripted("n1a", "n2b", "n3a", "n4c");
        due("no run", x.why(0), -1);
        x.run(0);
        due("it ran", x.why(2), 12);
        due("not done", x.why(3), -1);
        x.run(0);
        due("restored", x.why(0), -1);
        due("skipped", x.why(1), -1);
        TracedBuild hands = ranOnce("n1a", "n2b", "cce");
        hands.run(1);
        due("skipped ahead", hands.why(2), -1);
        hands.remove(E);
        hands.run(1);
        due("restored ahead", hands.why(2), -1);
        put(hands, C, 1);
        hands.run(1);
        due("ran ahead", hands.why(2), C);
        for (int k : new int[] {-1, 3, 9, 10, MIN, MAX}) {
            due("why(" + k + ")", hands.why(k), -1);
        }
        edit(hands, 0, "n1a");
        due("the script was changed", hands.why(2), -1);
        TracedBuild more = ranOnce("n1l", "?an1b", "cbd");
        put(more, A, 1);
        more.run(1);
        due("it ran the first time, but was restored the second", more.why(1), -1);
    }

    private void checkHazard() {
        sentence("12: its kind (what = 0), e (1), f (2), the file (3)");
        TracedBuild x = ranOnce("n1a", "n2b", "n3c", "n4d", "n5e", "n6f", "n7g", "n8h", "cal", "n1l");
        hazard("the last one", x, 1, 8, 9, L);
        edit(x, 9, "n1a");
        x.run(0);
        hazard("the first one", x, 1, 0, 9, A);
        sentence("12: (where that was run once more, the second one)");
        TracedBuild second = ranOnce("n1l", "?acbc", "n2b");
        put(second, A, 1);
        second.run(1);
        hazard("the first was of kind 3", second, 2, 1, 2, B);
        TracedBuild end = ranOnce("n1l", "?an1b", "cbd");
        put(end, A, 1);
        end.run(1);
        sentence("12: -1 if none did");
        due("again", end.again(), 1);
        noHazard("the second came to its end", end);
        noHazard("to its end", ranOnce("n1a"));
        TracedBuild passed = ranOnce("pab", "n1a");
        hazard("a hazard", passed, 2, 0, 1, A);
        passed.run(0);
        noHazard("none in the latest run", passed);
        sentence("12: there was no run since the script was changed");
        TracedBuild changed = ranOnce("n1a", "n1a", "n2b");
        command(changed, "n3c");
        noHazard("command", changed);
        changed.run(0);
        hazard("a run", changed, 1, 0, 1, A);
        edit(changed, 2, "n2b");
        noHazard("edit", changed);
        changed.run(0);
        changed.drop(3);
        noHazard("drop", changed);
        changed.run(0);
        throwing("drop(3)", INDEX, () -> changed.drop(3));
        throwing("run(5)", ARGUMENT, () -> changed.run(5));
        hazard("what throws changes nothing", changed, 1, 0, 1, A);
        sentence("12: or there is no such what");
        for (int what : new int[] {-1, 4, 5, MIN, MAX}) {
            due("hazard(" + what + ")", changed.hazard(what), -1);
        }
    }

    private void checkAgain() {
        sentence("13: How many runs were run once more, in all");
        TracedBuild x = scripted("n1l", "?an1b", "cbd");
        due("no run", x.again(), 0);
        for (int round = 1; round <= 3; round++) {
            x.remove(A);
            x.remove(B);
            x.tear(0);
            x.run(4);
            due("to its end", x.again(), round - 1);
            put(x, A, round);
            x.run(4);
            due("once more", x.again(), round);
        }
        edit(x, 0, "n1k");
        due("the script was changed", x.again(), 3);
        edit(x, 1, "n1k");
        due("fatal", x.run(4), 1);
        due("a fatal one is not run once more", x.again(), 3);
        throwing("run(5)", ARGUMENT, () -> x.run(5));
        due("nor is one that throws", x.again(), 3);
    }

    private void checkTraces() {
        sentence("14: How many traces the store has");
        TracedBuild x = scripted(TEN);
        due("none", x.traces(), 0);
        x.run(0);
        due("ten", x.traces(), 10);
        x.run(0);
        due("none is added by who is skipped", x.traces(), 10);
        x.remove(A);
        x.run(0);
        due("nor by who is restored", x.traces(), 10);
        x.tear(1);
        due("one", x.traces(), 1);
        x.tear(0);
        due("none", x.traces(), 0);
    }

    private void checkTrace() {
        TracedBuild x = having(row(1, 2, 3, 4, 5, 6));
        for (String text : new String[] {"jalb", "xc", "?ln1d", "?a?a?a?a?alk", "clj"}) {
            command(x, text);
        }
        x.run(0);
        sentence("15: the length of its text (what = 0), the files that were read, bit f for file f (1), those that were asked for (2), "
            + "the file that was written (3");
        trace("six numbers", x, 0, 4, 2049, 0, B, 6);
        trace("the longest text", x, 3, 12, 1, 4095, K, 2);
        trace("no numbers", x, 4, 3, 2048, 0, J, 0);
        sentence("15: 3; -1 if none), how many numbers it has since (4");
        due("none", x.trace(2, 3), -1);
        due("the first file", done("xa").trace(0, 3), 0);
        due("the last file", done("xl").trace(0, 3), 11);
        sentence("15: 4; -1 if it is not there, or none was written");
        due("not there", x.trace(1, 4), -1);
        due("none written", x.trace(2, 4), -1);
        due("there without any", x.trace(4, 4), 0);
        sentence("15: -1 if there is no such what");
        for (int what : new int[] {-1, 5, 6, MIN, MAX}) {
            due("what = " + what, x.trace(0, what), -1);
        }
        sentence("15: IndexOutOfBoundsException, before that, if there is no such trace");
        for (int k : new int[] {-1, 5, 23, 24, MIN, MAX}) {
            for (int what : new int[] {-1, 0, 4, 5}) {
                throwing("trace(" + k + ", " + what + ")", INDEX, () -> x.trace(k, what));
            }
        }
        throwing("none at all", INDEX, () -> new TracedBuild().trace(0, 0));
        sentence("15: Of trace k (from 0, the oldest first)");
        due("trace 0", x.trace(0, 0), 4);
        due("trace 1", x.trace(1, 0), 2);
        x.tear(4);
        throwing("torn off", INDEX, () -> x.trace(4, 0));
        due("the last that is left", x.trace(3, 0), 12);
        TracedBuild full = scripted("cab");
        for (int i = 0; i < 30; i++) {
            set(full, A, i);
            full.run(0);
        }
        due("the last of 24", full.trace(23, 0), 3);
        throwing("a 25th", INDEX, () -> full.trace(24, 0));
    }

    private void checkTear() {
        sentence("16: The store was torn: only its first traces are left, as many as this says");
        TracedBuild x = ranOnce("n1a", "n12b", "n123c");
        due("one fewer", x.tear(2), true);
        due("left", x.traces(), 2);
        trace("the first", x, 0, 3, 0, 0, A, 1);
        trace("the second", x, 1, 4, 0, 0, B, 2);
        x.run(0);
        did("the third is not known", x, 2, 2, 1);
        due("none", x.tear(0), true);
        due("left", x.traces(), 0);
        sentence("16: false, refused, if it is below 0 or it has not more");
        due("0 of none", x.tear(0), false);
        due("-1 of none", x.tear(-1), false);
        x.run(0);
        for (int left : new int[] {-1, 3, 4, 24, 25, MIN, MAX}) {
            due("tear(" + left + ") of 3", x.tear(left), false);
        }
        due("refused", x.traces(), 3);
        x.run(0);
        did("refused", x, 2, 2, 2);
    }

    private void checkCompact() {
        sentence("17: Of each text only the latest trace stays, in their order: how many fell out");
        TracedBuild x = scripted("cab", "cac");
        due("none", x.compact(), 0);
        x.run(0);
        due("each text once", x.compact(), 0);
        due("traces", x.traces(), 2);
        for (int i = 1; i <= 11; i++) {
            set(x, A, i);
            x.run(0);
        }
        due("traces", x.traces(), 24);
        due("of 24", x.compact(), 22);
        due("traces", x.traces(), 2);
        trace("in their order", x, 0, 3, 1, 0, B, 1);
        trace("in their order", x, 1, 3, 1, 0, C, 1);
        x.run(0);
        did("the latest stayed", x, 2, 2);
        set(x, A, 10);
        x.run(0);
        did("one before the latest did not", x, 1, 1);
        due("two more", x.compact(), 2);
        due("nothing more", x.compact(), 0);
        TracedBuild order = scripted("cab", "n1d");
        order.run(0);
        set(order, A, 1);
        order.run(0);
        due("the first fell out", order.compact(), 1);
        trace("the second is the first", order, 0, 3, 0, 0, D, 1);
        trace("the latest is the last", order, 1, 3, 1, 0, B, 1);
    }

    private void checkSize() {
        sentence("18: How many numbers a file has (0, if it is there without any)");
        TracedBuild x = having(EMPTY, row(1), row(1, 2, 3, 4, 5, 6));
        due("without any", x.size(A), 0);
        due("one", x.size(B), 1);
        due("six", x.size(C), 6);
        put(x, L, 1, 2);
        due("the last file", x.size(L), 2);
        sentence("18: -1 if it is not there, or there is none such");
        due("not there", x.size(D), -1);
        x.remove(A);
        due("not there any more", x.size(A), -1);
        for (int file : new int[] {-1, 12, 13, MIN, MAX}) {
            due("size(" + file + ")", x.size(file), -1);
        }
    }

    private void checkNumber() {
        sentence("19: Number i of a file");
        TracedBuild x = having(row(10, 20, 30, 40, 50, 60), row(-32768, 32767), EMPTY);
        put(x, L, 7);
        for (int i = 0; i < 6; i++) {
            due("number", x.number(A, i), 10 * i + 10);
        }
        due("the least", x.number(B, 0), -32768);
        due("the greatest", x.number(B, 1), 32767);
        due("of the last file", x.number(L, 0), 7);
        sentence("19: IndexOutOfBoundsException if there is none");
        for (int i : new int[] {-1, 6, 7, MIN, MAX}) {
            throwing("number(a, " + i + ")", INDEX, () -> x.number(A, i));
        }
        throwing("behind two", INDEX, () -> x.number(B, 2));
        throwing("before two", INDEX, () -> x.number(B, -1));
        throwing("behind the last", INDEX, () -> x.number(L, 1));
        throwing("without any", INDEX, () -> x.number(C, 0));
        throwing("not there", INDEX, () -> x.number(D, 0));
        x.remove(A);
        throwing("not there any more", INDEX, () -> x.number(A, 0));
        for (int file : new int[] {-1, 12, 13, MIN, MAX}) {
            throwing("number(" + file + ", 0)", INDEX, () -> x.number(file, 0));
        }
    }

    private void all() {
        part(this::checkNewObject);
        part(this::checkType);
        part(this::checkCommand);
        part(this::checkEdit);
        part(this::checkDrop);
        part(this::checkCommands);
        part(this::checkPut);
        part(this::checkRemove);
        part(this::checkRun);
        part(this::checkDid);
        part(this::checkDidNone);
        part(this::checkWhy);
        part(this::checkWhyNone);
        part(this::checkHazard);
        part(this::checkAgain);
        part(this::checkTraces);
        part(this::checkTrace);
        part(this::checkTear);
        part(this::checkCompact);
        part(this::checkSize);
        part(this::checkNumber);
        end();
    }

    public static void main(String[] args) {
        new PromiseBoundaryTest().all();
    }
}
