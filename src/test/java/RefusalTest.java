import java.util.function.Function;
import java.util.function.ToLongFunction;

/**
 * A call that throws or is refused changes nothing but what the document says it changes: of two objects with the same past
 * one gets the call, and then both must tell the same, at once and after more calls that bring the hidden state to light.
 */
public final class RefusalTest extends Check {
    private static final Class<?> ARGUMENT = IllegalArgumentException.class;
    private static final Class<?> STATE = IllegalStateException.class;
    private static final Class<?> INDEX = IndexOutOfBoundsException.class;
    private static final int MIN = Integer.MIN_VALUE, MAX = Integer.MAX_VALUE;

    /** Makes an object, which has this text at hand then. */
    private interface Past extends Function<String, TracedBuild> {
    }

    private RefusalTest() {
        super("RefusalTest");
    }

    private static TracedBuild withNothing(String hand) {
        TracedBuild x = new TracedBuild();
        type(x, hand);
        return x;
    }

    /** Ten commands, a hazard, a run that was run once more, files with none to six numbers, and some not there. */
    private static TracedBuild withMuch(String hand) {
        TracedBuild x = having(row(1, 2, 3, 4, 5, 6), row(7), EMPTY);
        for (String text : new String[] {"cad", "n12e", "pbf", "xg", "?bsah", "?cn1i", "f2aj", "+abk", "?cxl", "n9d"}) {
            command(x, text);
        }
        x.run(0);
        x.run(0);
        put(x, E, 5);
        put(x, B, 8);
        x.run(3);
        put(x, B, 9);
        x.run(0);
        put(x, E, 5);
        x.remove(D);
        type(x, hand);
        return x;
    }

    /** A full store, of one text with many traces, and one command. */
    private static TracedBuild withFullStore(String hand) {
        TracedBuild x = scripted("cab");
        for (int i = 0; i < 25; i++) {
            set(x, A, i);
            x.run(0);
        }
        set(x, A, 20);
        type(x, hand);
        return x;
    }

    /** Traces, but no command any more. */
    private static TracedBuild withoutScript(String hand) {
        TracedBuild x = scripted("n1a", "n2b", "cac");
        x.run(0);
        for (int k = 2; k >= 0; k--) {
            x.drop(k);
        }
        type(x, hand);
        return x;
    }

    private static final Past[] PASTS = {
        RefusalTest::withNothing, RefusalTest::withMuch, RefusalTest::withFullStore, RefusalTest::withoutScript,
    };
    private static final int NOTHING = 0, MUCH = 1, FULL_STORE = 2, NO_SCRIPT = 3;

    private static String told(TracedBuild x) {
        StringBuilder text = new StringBuilder("commands " + x.commands() + ", again " + x.again() + ", files");
        for (int file = 0; file < 12; file++) {
            text.append(' ').append(x.size(file)).append(':');
            for (int i = 0; i < x.size(file); i++) {
                text.append(x.number(file, i)).append(',');
            }
        }
        text.append(", did");
        for (int k = 0; k < 10; k++) {
            text.append(' ').append(x.did(k)).append('/').append(x.why(k));
        }
        text.append(", hazard");
        for (int what = 0; what < 4; what++) {
            text.append(' ').append(x.hazard(what));
        }
        text.append(", traces");
        for (int k = 0; k < x.traces(); k++) {
            text.append(' ').append(x.trace(k, 0)).append('/').append(x.trace(k, 1)).append('/').append(x.trace(k, 3));
        }
        return text.toString();
    }

    private static String answer(Call call) {
        try {
            call.make();
            return "nothing thrown";
        } catch (RuntimeException e) {
            return e.getClass().getSimpleName();
        }
    }

    /** What comes to light of the script, of the store and of the files that were known at a run. */
    private static String afterRun(TracedBuild x) {
        return answer(() -> x.run(2)) + ", " + told(x);
    }

    /** What comes to light of the text at hand: of its length by what is still taken, of the rest by using it. */
    private static String afterUse(TracedBuild x) {
        return answer(() -> {
            if (x.commands() == 10) {
                x.edit(0);
            } else {
                x.command();
            }
        }) + ", " + afterRun(x);
    }

    private static String afterTyping(TracedBuild x) {
        int taken = 0;
        while (taken < 13 && x.type('a')) {
            taken++;
        }
        return taken + " more";
    }

    private void same(String what, Past past, String hand, String handDue, Call1 call) {
        TracedBuild[] touched = new TracedBuild[4];
        for (int i = 0; i < 4; i++) {
            touched[i] = past.apply(hand);
            TracedBuild x = touched[i];
            answer(() -> call.make(x));
        }
        same(what, told(touched[0]), told(past.apply(handDue)));
        same(what + ", then run", afterRun(touched[1]), afterRun(past.apply(handDue)));
        same(what + ", then the text used", afterUse(touched[2]), afterUse(past.apply(handDue)));
        same(what + ", then typing", afterTyping(touched[3]), afterTyping(past.apply(handDue)));
    }

    private void same(String what, String got, String want) {
        due(what + " left\n  " + got + "\n  due is\n  " + want, got.equals(want), true);
    }

    /** A call on an object. */
    private interface Call1 {
        void make(TracedBuild x);
    }

    private void throwsAndLeaves(String what, int past, String hand, String handDue, Class<?> thrown, Call1 call) {
        TracedBuild x = PASTS[past].apply(hand);
        throwing(what, thrown, () -> call.make(x));
        same(what, PASTS[past], hand, handDue, call);
    }

    private void refuses(String what, int past, long answer, ToLongFunction<TracedBuild> call) {
        for (String hand : new String[] {"", "n7", "n7l"}) {
            due(what, call.applyAsLong(PASTS[past].apply(hand)), answer);
            same(what, PASTS[past], hand, hand, call::applyAsLong);
        }
    }

    private static long bit(boolean value) {
        return value ? 1 : 0;
    }

    private void checkType() {
        sentence("type, refused");
        for (int past = 0; past < PASTS.length; past++) {
            for (String hand : new String[] {"?a?b?c?d?exl", "qqqqqqqqqqqq"}) {
                due("type", PASTS[past].apply(hand).type('k'), false);
                same("type", PASTS[past], hand, hand, x -> x.type('k'));
            }
        }
    }

    private void checkCommand() {
        sentence("command, IllegalArgumentException: the text is empty then");
        for (int past = 0; past < PASTS.length; past++) {
            for (String hand : new String[] {"", "n", "n7", "n7lq", "qqqqqqqqqqqq"}) {
                throwsAndLeaves("command of '" + hand + "'", past, hand, "", ARGUMENT, TracedBuild::command);
            }
        }
        sentence("command, IllegalStateException: the text stays");
        throwsAndLeaves("command", MUCH, "n7l", "n7l", STATE, TracedBuild::command);
        throwsAndLeaves("command", MUCH, "?a?b?c?d?exl", "?a?b?c?d?exl", STATE, TracedBuild::command);
    }

    private void checkEdit() {
        sentence("edit, IndexOutOfBoundsException: the text stays");
        for (int past = 0; past < PASTS.length; past++) {
            int commands = PASTS[past].apply("").commands();
            for (int k : new int[] {-1, commands, 10, MIN, MAX}) {
                for (String hand : new String[] {"", "n7", "n7l"}) {
                    throwsAndLeaves("edit(" + k + ") to '" + hand + "'", past, hand, hand, INDEX, x -> x.edit(k));
                }
            }
        }
        sentence("edit, IllegalArgumentException: the text is empty then");
        for (String hand : new String[] {"", "n7", "qqqqqqqqqqqq"}) {
            throwsAndLeaves("edit(0) to '" + hand + "'", MUCH, hand, "", ARGUMENT, x -> x.edit(0));
            throwsAndLeaves("edit(9) to '" + hand + "'", MUCH, hand, "", ARGUMENT, x -> x.edit(9));
            throwsAndLeaves("edit(0) to '" + hand + "'", FULL_STORE, hand, "", ARGUMENT, x -> x.edit(0));
        }
    }

    private void checkDrop() {
        sentence("drop, IndexOutOfBoundsException");
        for (int past = 0; past < PASTS.length; past++) {
            int commands = PASTS[past].apply("").commands();
            for (int k : new int[] {-1, commands, 10, MIN, MAX}) {
                throwsAndLeaves("drop(" + k + ")", past, "n7l", "n7l", INDEX, x -> x.drop(k));
            }
        }
    }

    private void checkFiles() {
        sentence("put, refused");
        refuses("put in a file that has six", MUCH, -1, x -> x.put(A, (short) 1));
        for (int file : new int[] {-1, 12, MIN, MAX}) {
            refuses("put(" + file + ")", MUCH, -1, x -> x.put(file, (short) 1));
            refuses("put(" + file + ")", NOTHING, -1, x -> x.put(file, (short) 1));
        }
        sentence("remove, refused");
        refuses("remove what is not there", MUCH, 0, x -> bit(x.remove(G)));
        for (int file : new int[] {-1, 0, 11, 12, MIN, MAX}) {
            refuses("remove(" + file + ")", NOTHING, 0, x -> bit(x.remove(file)));
        }
        sentence("number, IndexOutOfBoundsException");
        throwsAndLeaves("number(a, 6)", MUCH, "n7l", "n7l", INDEX, x -> x.number(A, 6));
        throwsAndLeaves("number(a, -1)", MUCH, "n7l", "n7l", INDEX, x -> x.number(A, -1));
        throwsAndLeaves("number(c, 0)", MUCH, "n7l", "n7l", INDEX, x -> x.number(C, 0));
        throwsAndLeaves("number(g, 0)", MUCH, "n7l", "n7l", INDEX, x -> x.number(G, 0));
        throwsAndLeaves("number(12, 0)", MUCH, "n7l", "n7l", INDEX, x -> x.number(12, 0));
    }

    private void checkRun() {
        sentence("run, IllegalArgumentException");
        for (int past = 0; past < PASTS.length; past++) {
            for (int spare : new int[] {-1, 5, MIN, MAX}) {
                throwsAndLeaves("run(" + spare + ")", past, "n7l", "n7l", ARGUMENT, x -> x.run(spare));
            }
        }
        sentence("run, IllegalStateException");
        for (int past : new int[] {NOTHING, NO_SCRIPT}) {
            throwsAndLeaves("run(0)", past, "n7l", "n7l", STATE, x -> x.run(0));
            throwsAndLeaves("run(4)", past, "n7l", "n7l", STATE, x -> x.run(4));
        }
    }

    private void checkStore() {
        sentence("tear, refused");
        for (int past = 0; past < PASTS.length; past++) {
            int traces = PASTS[past].apply("").traces();
            for (int left : new int[] {-1, traces, traces + 1, 24, MIN, MAX}) {
                refuses("tear(" + left + ")", past, 0, x -> bit(x.tear(left)));
            }
        }
        sentence("compact, where nothing falls out");
        refuses("compact", NOTHING, 0, TracedBuild::compact);
        refuses("compact", NO_SCRIPT, 0, TracedBuild::compact);
        sentence("trace, IndexOutOfBoundsException or no such what");
        for (int past = 0; past < PASTS.length; past++) {
            int traces = PASTS[past].apply("").traces();
            throwsAndLeaves("trace(-1, 0)", past, "n7l", "n7l", INDEX, x -> x.trace(-1, 0));
            throwsAndLeaves("trace(" + traces + ", 5)", past, "n7l", "n7l", INDEX, x -> x.trace(traces, 5));
        }
        refuses("trace(0, 5)", MUCH, -1, x -> x.trace(0, 5));
        refuses("trace(0, -1)", FULL_STORE, -1, x -> x.trace(0, -1));
    }

    private void checkAsking() {
        sentence("did, why, hazard, size: of none such");
        for (int k : new int[] {-1, 12, MIN, MAX}) {
            refuses("did(" + k + ")", MUCH, -1, x -> x.did(k));
            refuses("why(" + k + ")", MUCH, -1, x -> x.why(k));
            refuses("hazard(" + k + ")", MUCH, -1, x -> x.hazard(k));
            refuses("size(" + k + ")", MUCH, -1, x -> x.size(k));
        }
    }

    /** The pasts are worth something only if they have reached what their names say. */
    private void checkPasts() {
        sentence("what the objects have behind them");
        TracedBuild much = withMuch("");
        due("commands", much.commands(), 10);
        due("run once more", much.again() > 0, true);
        hazard("a hazard", much, 1, 0, 9, D);
        due("why", much.why(2) == -1 && much.why(4) == B, true);
        due("a full store", withFullStore("").traces(), 24);
        due("no script", withoutScript("").commands(), 0);
        due("traces without a script", withoutScript("").traces(), 3);
        due("told apart", told(withMuch("")).equals(told(withFullStore(""))), false);
        due("the text told apart", afterUse(withMuch("n7l")).equals(afterUse(withMuch("n8l"))), false);
        due("the text's length told apart", afterTyping(withMuch("n7l")).equals(afterTyping(withMuch(""))), false);
    }

    private void all() {
        part(this::checkPasts);
        part(this::checkType);
        part(this::checkCommand);
        part(this::checkEdit);
        part(this::checkDrop);
        part(this::checkFiles);
        part(this::checkRun);
        part(this::checkStore);
        part(this::checkAsking);
        end();
    }

    public static void main(String[] args) {
        new RefusalTest().all();
    }
}
