import java.util.ArrayList;
import java.util.Arrays;
import java.util.List;

/** Promises 2 to 19 where no boundary is: for every place, file, number and trace, and as one call follows another. */
public final class PromisesTest extends Check {
    private static final int FILES = 12;
    private static final String[] TEN = {"n1a", "n2b", "n3c", "n4d", "n5e", "n6f", "n7g", "n8h", "n9i", "n1j"};

    private PromisesTest() {
        super("PromisesTest");
    }

    private static TracedBuild ranOnce(String... texts) {
        TracedBuild x = scripted(texts);
        x.run(0);
        return x;
    }

    private static List<String> firstOfTen(int many) {
        List<String> texts = new ArrayList<>();
        for (int k = 0; k < many; k++) {
            texts.add(TEN[k]);
        }
        return texts;
    }

    /** The script has these commands, in this order: their traces, of a run upon an empty store, tell. */
    private void script(String what, TracedBuild x, List<String> texts) {
        due(what + ": commands", x.commands(), texts.size());
        if (texts.isEmpty()) {
            return;
        }
        x.tear(0);
        due(what + ": run", x.run(0), 0);
        due(what + ": traces", x.traces(), texts.size());
        for (int k = 0; k < texts.size() && k < x.traces(); k++) {
            String text = texts.get(k);
            due(what + ": command " + k + " writes", x.trace(k, 3), text.charAt(text.length() - 1) - 'a');
            due(what + ": its number", x.number(x.trace(k, 3), 0), text.charAt(1) - '0');
        }
    }

    private void checkType() {
        sentence("2: Appends a character (any one) to the text at hand");
        TracedBuild x = new TracedBuild();
        for (char c : "n1234a".toCharArray()) {
            due("type " + c, x.type(c), true);
        }
        x.command();
        x.run(0);
        file("in the order in which they came", x, A, 1, 2, 3, 4);
        TracedBuild apart = new TracedBuild();
        apart.type('c');
        put(apart, B, 7);
        apart.type('b');
        apart.commands();
        apart.type('e');
        due("other calls may stand between", apart.command(), 0);
        apart.run(0);
        file("other calls may stand between", apart, E, 7);
        TracedBuild kept = ranOnce("n1a", "n2b");
        type(kept, "n3");
        kept.run(1);
        kept.drop(1);
        kept.tear(1);
        kept.compact();
        kept.remove(A);
        kept.did(0);
        kept.why(0);
        kept.hazard(0);
        kept.again();
        kept.traces();
        kept.trace(0, 0);
        kept.size(A);
        type(kept, "c");
        due("no other call touches the text", kept.command(), 1);
        kept.run(0);
        file("no other call touches the text", kept, C, 3);
    }

    private void checkCommand() {
        sentence("3: The text at hand becomes the next command: its number; then the text is empty");
        for (int many = 1; many <= 10; many++) {
            TracedBuild x = new TracedBuild();
            for (int k = 0; k < many; k++) {
                type(x, TEN[k]);
                due("its number", x.command(), k);
            }
            script(many + " commands", x, firstOfTen(many));
        }
    }

    private void checkEdit() {
        sentence("4: The text at hand takes the place of command k; then the text is empty");
        for (int many = 1; many <= 10; many++) {
            for (int k = 0; k < many; k++) {
                TracedBuild x = scripted(firstOfTen(many).toArray(new String[0]));
                List<String> texts = firstOfTen(many);
                texts.set(k, "n9l");
                edit(x, k, "n9l");
                script("edit(" + k + ") of " + many, x, texts);
                throwing("the text is empty", IllegalArgumentException.class, () -> x.edit(0));
            }
        }
    }

    private void checkDrop() {
        sentence("5: Command k falls out; those behind are numbered anew");
        for (int many = 1; many <= 10; many++) {
            for (int k = 0; k < many; k++) {
                TracedBuild x = scripted(firstOfTen(many).toArray(new String[0]));
                List<String> texts = firstOfTen(many);
                texts.remove(k);
                x.drop(k);
                script("drop(" + k + ") of " + many, x, texts);
                texts.add("n9l");
                due("the next number", command(x, "n9l"), many - 1);
                script("drop(" + k + ") of " + many + ", and one more", x, texts);
                edit(x, many - 1, "n8k");
                texts.set(many - 1, "n8k");
                script("drop(" + k + ") of " + many + ", and that one edited", x, texts);
            }
        }
    }

    private void checkFiles() {
        sentence("7: From outside: a file gets one number more (it is there then; what the latest run did is told still): how many it has");
        for (int file = 0; file < FILES; file++) {
            TracedBuild x = new TracedBuild();
            int[] numbers = {};
            for (int many = 1; many <= 6; many++) {
                numbers = Arrays.copyOf(numbers, many);
                numbers[many - 1] = file * 1000 - many * 4000;
                due("put", x.put(file, (short) numbers[many - 1]), many);
                file("it has them", x, file, numbers);
            }
            for (int other = 0; other < FILES; other++) {
                due("the others", x.size(other), other == file ? 6 : -1);
            }
            due("remove", x.remove(file), true);
            due("remove", x.remove(file), false);
            gone("removed", x, file);
        }
        sentence("8: From outside: a file is not there any more");
        for (int file = 0; file < FILES; file++) {
            TracedBuild x = new TracedBuild();
            for (int other = 0; other < FILES; other++) {
                put(x, other, other, -other);
            }
            due("remove", x.remove(file), true);
            for (int other = 0; other < FILES; other++) {
                due("the others are there", x.size(other), other == file ? -1 : 2);
            }
        }
        TracedBuild told = ranOnce("cab", "n1c", "n2c", "xd");
        for (int file = 0; file < FILES; file++) {
            put(told, file, 1);
            told.remove(file);
            did("told still", told, 1, 1, 1, 0);
            due("told still", told.why(0), 12);
            hazard("told still", told, 1, 1, 2, C);
        }
    }

    private void checkDid() {
        sentence("10: What command k did in the latest run");
        TracedBuild x = scripted("cab", "n1c");
        int[][] due = {{1, 1}, {2, 2}, {1, 2}, {3, 3}};
        for (int run = 0; run < due.length; run++) {
            if (run == 2) {
                put(x, A, 1);
            } else if (run == 3) {
                x.remove(B);
                x.remove(C);
            }
            x.run(0);
            did("run " + run, x, due[run]);
            did("and it is told twice", x, due[run]);
        }
        TracedBuild shorter = ranOnce("n1a", "n2b", "n3a", "n4d");
        did("it came to 2", shorter, 1, 1, 1, 0);
        edit(shorter, 2, "n3c");
        shorter.run(0);
        did("it came to its end", shorter, 3, 2, 1, 1);
        edit(shorter, 1, "n5a");
        shorter.run(0);
        did("it came to 1: of those behind nothing is told of earlier runs", shorter, 2, 1, 0, 0);
        due("nor why", shorter.why(3), -1);
        sentence("10: -1 if there was no run since the script was changed (by command, edit or drop that did not throw; the store stays)");
        for (int k = 0; k < 3; k++) {
            TracedBuild same = ranOnce("n1a", "n2b", "n2b");
            hazard("a run", same, 1, 1, 2, B);
            edit(same, k, k == 0 ? "n1a" : "n2b");
            did("edit to the same text", same, -1, -1, -1);
            due("edit to the same text: why", same.why(k), -1);
            noHazard("edit to the same text", same);
            due("the store stays", same.traces(), 2);
            same.run(0);
            did("the store stays", same, 2, 2, 2);
        }
    }

    private void checkWhy() {
        sentence("11: else of the latest trace of its text then (before it ran) the first file that was read, "
            + "or if there is none asked for, and is another one now");
        // Of each pair of files that was read, one or both or none is changed, in either order of reading.
        for (int one = 0; one < FILES; one++) {
            for (int two = 0; two < FILES; two++) {
                String text = "j" + (char) ('a' + one) + (char) ('a' + two) + (char) ('a' + (one + 1) % FILES);
                TracedBuild x = ranOnce(text);
                x.tear(0);
                x.run(0);
                put(x, two, 1);
                x.run(0);
                due(text + ": the second is another one", x.why(0), two);
                x.tear(1);
                put(x, one, 1);
                x.run(0);
                due(text + ": both are other ones", x.why(0), Math.min(one, two));
            }
        }
        for (int file = 0; file < FILES; file++) {
            int next = (file + 1) % FILES;
            TracedBuild x = ranOnce("p" + (char) ('a' + file) + (char) ('a' + next));
            put(x, file, 1);
            x.run(0);
            due("asked for, and it came", x.why(0), file);
            x.tear(1);
            x.run(0);
            due("told of the latest trace that is left", x.why(0), file);
        }
        TracedBuild x = scripted("?l?kpac");
        put(x, K, 1);
        put(x, L, 1);
        x.run(0);
        put(x, A, 1);
        x.run(0);
        due("asked for", x.why(0), A);
        x.remove(A);
        put(x, L, 1);
        x.run(0);
        due("read, though asked for is another one, too", x.why(0), L);
        put(x, A, 1);
        put(x, K, 1);
        put(x, L, 1);
        x.run(0);
        due("the first that was read", x.why(0), K);
        TracedBuild now = scripted("jabc");
        now.run(0);
        put(now, B, 1);
        now.run(0);
        put(now, A, 1);
        due("what comes behind the run does not count", now.why(0), B);
        now.remove(B);
        now.compact();
        now.tear(0);
        due("nor what becomes of the store", now.why(0), B);
    }

    private void checkHazard() {
        sentence("12: Of the hazard that ended the latest run");
        TracedBuild x = scripted("?an1c", "?bn1d", "n2c", "n2d");
        put(x, A, 1);
        due("run", x.run(0), 1);
        hazard("0 and 2", x, 1, 0, 2, C);
        x.remove(A);
        put(x, B, 1);
        due("run", x.run(0), 1);
        hazard("1 and 3", x, 1, 1, 3, D);
        x.remove(B);
        due("run", x.run(0), 0);
        noHazard("none", x);
        put(x, A, 1);
        due("run", x.run(0), 1);
        hazard("0 and 2", x, 1, 0, 2, C);
        for (int e = 0; e < 10; e++) {
            for (int f = e + 1; f < 10; f++) {
                String[] texts = TEN.clone();
                texts[f] = "n9" + TEN[e].charAt(2);
                TracedBuild both = ranOnce(texts);
                hazard("both write", both, 1, e, f, e);
                texts[e] = "clk";
                texts[f] = "n9l";
                TracedBuild read = ranOnce(texts);
                hazard("read, then written", read, 2, e, f, L);
            }
        }
    }

    private void checkTear() {
        sentence("16: The store was torn: only its first traces are left, as many as this says");
        for (int left = 0; left <= 24; left++) {
            TracedBuild x = fullStore();
            due("tear(" + left + ")", x.tear(left), left < 24);
            due("left", x.traces(), left);
            for (int k = 0; k < left; k++) {
                due("trace " + k, x.trace(k, 4), k % 6 + 1);
            }
            set(x, A, 1);
            x.run(0);
            due("the first is known still, if it is left", x.did(0), left > 0 ? 3 : 1);
            due("one comes if it is not", x.traces(), Math.max(left, 1));
        }
    }

    /** Traces 0 to 23 have written 1, 2, .. 6, 1, 2, .. numbers. */
    private static TracedBuild fullStore() {
        TracedBuild x = scripted("cab");
        for (int k = 0; k < 24; k++) {
            x.remove(A);
            for (int i = 0; i <= k % 6; i++) {
                x.put(A, (short) (1 + k / 6));
            }
            x.run(0);
        }
        return x;
    }

    private void checkCompact() {
        sentence("17: Of each text only the latest trace stays, in their order: how many fell out");
        String[] texts = {"cab", "jaac", "?acad"};
        int draws = 3 * 3 * 3 * 3 * 3 * 3;
        for (int draw = 0; draw < draws; draw++) {
            TracedBuild x = scripted("xl");
            List<Integer> order = new ArrayList<>();
            int[] numbers = new int[3];
            int rest = draw;
            for (int k = 0; k < 6; k++) {
                int which = rest % 3;
                rest /= 3;
                edit(x, 0, texts[which]);
                set(x, A, k + 1);
                x.run(0);
                order.remove(Integer.valueOf(which));
                order.add(which);
                numbers[which] = k + 1;
            }
            due("six came", x.traces(), 6);
            due("fell out", x.compact(), 6 - order.size());
            kept(x, order);
            due("nothing more falls out", x.compact(), 0);
            kept(x, order);
            edit(x, 0, "n1k");
            x.run(0);
            edit(x, 0, "n2k");
            x.run(0);
            due("two came", x.traces(), order.size() + 2);
            kept(x, order);
            for (int which : order) {
                edit(x, 0, texts[which]);
                set(x, A, numbers[which]);
                x.remove(B + which);
                x.run(0);
                did("the latest stayed, with what it read", x, 3);
                file("and with what it wrote", x, B + which, which == 1 ? row(numbers[1], numbers[1]) : row(numbers[which]));
            }
        }
    }

    private void kept(TracedBuild x, List<Integer> order) {
        due("as many stayed", x.traces() >= order.size(), true);
        for (int k = 0; k < order.size() && k < x.traces(); k++) {
            int which = order.get(k);
            trace("in their order", x, k, 3 + which, 1, 0, B + which, which == 1 ? 2 : 1);
        }
    }

    private void checkNumber() {
        sentence("19: Number i of a file");
        for (int file = 0; file < FILES; file++) {
            for (int many = 0; many <= 6; many++) {
                TracedBuild x = new TracedBuild();
                for (int i = 0; i < many; i++) {
                    x.put(file, (short) (file - 100 * i));
                }
                for (int i = -2; i <= 8; i++) {
                    int at = i;
                    int of = file;
                    if (i >= 0 && i < many) {
                        due("number " + i, x.number(file, i), file - 100 * i);
                    } else {
                        throwing("number " + i, IndexOutOfBoundsException.class, () -> x.number(of, at));
                    }
                }
                due("size", x.size(file), many == 0 ? -1 : many);
            }
        }
    }

    private void all() {
        part(this::checkType);
        part(this::checkCommand);
        part(this::checkEdit);
        part(this::checkDrop);
        part(this::checkFiles);
        part(this::checkDid);
        part(this::checkWhy);
        part(this::checkHazard);
        part(this::checkTear);
        part(this::checkCompact);
        part(this::checkNumber);
        end();
    }

    public static void main(String[] args) {
        new PromisesTest().all();
    }
}
