import java.util.Random;
import java.util.Set;
import java.util.TreeSet;

/** All promises: long runs of calls drawn from fixed seeds, every answer held against PlainModel's. */
public final class ModelTest {
    private static final int OBJECTS = 6000;
    // Nothing is promised of an object beyond so many calls.
    private static final int CALLS = 512;

    /** One call's answer, or the number of the exception that it threw. */
    private interface Answer {
        long give();
    }

    private final Check check = new Check("ModelTest");
    private final Set<String> seen = new TreeSet<>();
    private Random random;
    private TracedBuild x;
    private PlainModel model;
    private int letters;
    private int calls;
    private String told;

    private static String tell(Answer answer) {
        try {
            return String.valueOf(answer.give());
        } catch (RuntimeException e) {
            return e.getClass().getSimpleName();
        }
    }

    private String same(String call, Answer real, Answer due) {
        if (calls == CALLS) {
            return "";
        }
        calls++;
        String got = tell(real);
        String want = tell(due);
        check.due(told + " " + call + " answered " + got + " for " + want, got.equals(want), true);
        return want;
    }

    private static long bit(boolean value) {
        return value ? 1 : 0;
    }

    private char letter() {
        return (char) ('a' + random.nextInt(letters));
    }

    private char digit() {
        return (char) ('1' + random.nextInt(9));
    }

    private String plainText() {
        switch (random.nextInt(9)) {
            case 0: return "c" + letter() + letter();
            case 1: return "j" + letter() + letter() + letter();
            case 2: return "+" + letter() + letter() + letter();
            case 3: return "s" + letter() + letter();
            case 4: return "f" + digit() + letter() + letter();
            case 5: return "n" + (random.nextBoolean() ? "" : digit()) + digit() + letter();
            case 6: return "p" + letter() + letter();
            case 7: return "l" + letter();
            default: return "x" + letter();
        }
    }

    private String text() {
        StringBuilder text = new StringBuilder();
        while (random.nextInt(5) < 2 && text.length() < 8) {
            text.append('?').append(letter());
        }
        text.append(plainText());
        if (random.nextInt(25) == 0) {
            text.setCharAt(random.nextInt(text.length()), (char) random.nextInt(random.nextBoolean() ? 128 : 65536));
        }
        return text.toString();
    }

    private void type(String text) {
        for (int i = 0; i < text.length(); i++) {
            char c = text.charAt(i);
            same("type " + (int) c, () -> bit(x.type(c)), () -> bit(model.type(c)));
        }
    }

    private void addCommand() {
        type(text());
        same("command", x::command, model::command);
    }

    private void change() {
        int k = random.nextInt(model.commands() + 2) - (random.nextInt(10) == 0 ? 1 : 0);
        if (random.nextInt(3) == 0) {
            same("drop " + k, () -> { x.drop(k); return 0; }, () -> { model.drop(k); return 0; });
        } else {
            type(text());
            same("edit " + k, () -> { x.edit(k); return 0; }, () -> { model.edit(k); return 0; });
        }
    }

    private void touchFiles() {
        int file = random.nextInt(20) == 0 ? random.nextInt(16) - 2 : random.nextInt(letters);
        if (random.nextInt(3) == 0) {
            same("remove " + file, () -> bit(x.remove(file)), () -> bit(model.remove(file)));
        } else {
            short number = (short) (random.nextInt(8) == 0 ? random.nextInt(65536) : random.nextInt(3));
            same("put " + file + " " + number, () -> x.put(file, number), () -> model.put(file, number));
        }
    }

    private void touchStore() {
        if (random.nextInt(3) == 0) {
            same("compact", x::compact, model::compact);
        } else {
            int left = model.traces() - random.nextInt(4) + (random.nextInt(5) == 0 ? 1 : 0);
            same("tear " + left, () -> bit(x.tear(left)), () -> bit(model.tear(left)));
        }
    }

    private void run() {
        int spare = random.nextInt(30) == 0 ? random.nextInt(9) - 2 : random.nextInt(5);
        int againBefore = model.again();
        String answer = same("run " + spare, () -> x.run(spare), () -> model.run(spare));
        seen.add("run " + answer + (model.again() > againBefore ? " once more" : ""));
        seen.add("hazard " + model.hazard(0));
    }

    private void ask() {
        int k = random.nextInt(12) - 1;
        int what = random.nextInt(7) - 1;
        int trace = random.nextInt(model.traces() + 2) - 1;
        switch (random.nextInt(8)) {
            case 0: same("commands", x::commands, model::commands); break;
            case 1: same("again", x::again, model::again); break;
            case 2: same("traces", x::traces, model::traces); break;
            case 3: seen.add("did " + same("did " + k, () -> x.did(k), () -> model.did(k))); break;
            case 4: seen.add("why " + same("why " + k, () -> x.why(k), () -> model.why(k))); break;
            case 5: same("hazard " + what, () -> x.hazard(what), () -> model.hazard(what)); break;
            case 6: same("number " + k + " " + what, () -> x.number(k, what), () -> model.number(k, what)); break;
            default: same("trace " + trace, () -> x.trace(trace, what), () -> model.trace(trace, what)); break;
        }
    }

    private void askOfRun() {
        for (int number = -1; number <= 10; number++) {
            int k = number;
            seen.add("did " + same("did " + k, () -> x.did(k), () -> model.did(k)));
            seen.add("why " + same("why " + k, () -> x.why(k), () -> model.why(k)));
        }
        for (int part = -1; part <= 4; part++) {
            int what = part;
            same("hazard " + what, () -> x.hazard(what), () -> model.hazard(what));
        }
        same("again", x::again, model::again);
    }

    private void askOfFilesAndStore() {
        for (int file = -1; file <= 12; file++) {
            int f = file;
            same("size " + f, () -> x.size(f), () -> model.size(f));
            for (int i = 0; i < model.size(f); i++) {
                int at = i;
                same("number " + f + " " + at, () -> x.number(f, at), () -> model.number(f, at));
            }
        }
        for (int trace = 0; trace <= model.traces(); trace++) {
            int k = trace;
            for (int part = -1; part <= 5; part++) {
                int what = part;
                same("trace " + k + " " + what, () -> x.trace(k, what), () -> model.trace(k, what));
            }
        }
    }

    private void use(int seed) {
        random = new Random(seed);
        told = "seed " + seed;
        x = new TracedBuild();
        model = new PlainModel();
        letters = 3 + random.nextInt(10);
        calls = 0;
        int commands = 2 + random.nextInt(9);
        while (model.commands() < commands && calls < CALLS / 2) {
            addCommand();
        }
        int last = calls + random.nextInt(CALLS - calls);
        while (calls < last) {
            callOne(random.nextInt(100));
        }
        askOfRun();
        askOfFilesAndStore();
    }

    private void callOne(int draw) {
        if (draw < 30) {
            run();
        } else if (draw < 75) {
            touchFiles();
        } else if (draw < 84) {
            ask();
        } else if (draw < 86) {
            askOfRun();
        } else if (draw < 95) {
            change();
        } else if (draw < 97) {
            touchStore();
        } else {
            addCommand();
        }
    }

    private void reached(String what) {
        check.due("the draws reached " + what, seen.contains(what), true);
    }

    public static void main(String[] args) {
        ModelTest test = new ModelTest();
        for (int seed = 0; seed < OBJECTS; seed++) {
            test.use(seed);
        }
        for (int k = -1; k <= 7; k++) {
            if (k != 4) {
                test.reached("did " + k);
            }
        }
        for (int file = -1; file <= 12; file++) {
            test.reached("why " + file);
        }
        test.reached("run 0");
        test.reached("run 0 once more");
        test.reached("run 1");
        test.reached("run 1 once more");
        test.reached("hazard -1");
        test.reached("hazard 1");
        test.reached("hazard 2");
        test.check.end();
    }
}
