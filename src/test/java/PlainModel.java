import java.util.ArrayList;
import java.util.Arrays;
import java.util.Collections;
import java.util.HashMap;
import java.util.List;
import java.util.Map;
import java.util.Objects;
import java.util.TreeMap;
import java.util.regex.Pattern;

/**
 * The document once more, written for likeness to its words and not for thrift, to hold TracedBuild against.
 * A file that is not there has no key in a map of files.
 */
final class PlainModel {
    private static final Pattern COMMAND =
        Pattern.compile("(\\?[a-l])*([csp][a-l]{2}|[j+][a-l]{3}|f[1-9][a-l]{2}|n[1-9]{1,4}[a-l]|[lx][a-l])");

    /** What a command's text read, asked for and wrote; of files read, null stands for one that was not there. */
    private static final class Trace {
        final String text;
        final TreeMap<Integer, List<Short>> read = new TreeMap<>();
        final TreeMap<Integer, Boolean> asked = new TreeMap<>();
        Integer wrote = null;
        List<Short> since = null;

        Trace(String text) {
            this.text = text;
        }

        Integer firstChange(Map<Integer, List<Short>> files) {
            for (Map.Entry<Integer, List<Short>> entry : read.entrySet()) {
                if (!Objects.equals(entry.getValue(), files.get(entry.getKey()))) {
                    return entry.getKey();
                }
            }
            for (Map.Entry<Integer, Boolean> entry : asked.entrySet()) {
                if (entry.getValue() != files.containsKey(entry.getKey())) {
                    return entry.getKey();
                }
            }
            return null;
        }

        boolean touches(Integer file) {
            return file != null && (read.containsKey(file) || asked.containsKey(file) || file.equals(wrote));
        }
    }

    /** What one command did in a run. */
    private static final class Done {
        final Trace trace;
        final int outcome;
        final boolean ahead;
        final int why;
        final boolean cameOrWent;

        Done(Trace trace, int outcome, boolean ahead, int why, boolean cameOrWent) {
            this.trace = trace;
            this.outcome = outcome;
            this.ahead = ahead;
            this.why = why;
            this.cameOrWent = cameOrWent;
        }
    }

    private String text = "";
    private final List<String> script = new ArrayList<>();
    private Map<Integer, List<Short>> files = new HashMap<>();
    private final List<Trace> store = new ArrayList<>();
    private Map<Integer, Done> done = null;
    private int[] hazard = null;
    private boolean speculative = false;
    private int again = 0;

    boolean type(char c) {
        if (text.length() == 12) {
            return false;
        }
        text += c;
        return true;
    }

    private String takeText() {
        String taken = text;
        text = "";
        if (!COMMAND.matcher(taken).matches()) {
            throw new IllegalArgumentException();
        }
        return taken;
    }

    private void changed() {
        done = null;
        hazard = null;
    }

    int command() {
        String taken = takeText();
        if (script.size() == 10) {
            text = taken;
            throw new IllegalStateException();
        }
        script.add(taken);
        changed();
        return script.size() - 1;
    }

    void edit(int k) {
        Objects.checkIndex(k, script.size());
        script.set(k, takeText());
        changed();
    }

    void drop(int k) {
        Objects.checkIndex(k, script.size());
        script.remove(k);
        changed();
    }

    int commands() {
        return script.size();
    }

    int put(int file, short number) {
        if (file < 0 || file > 11 || size(file) == 6) {
            return -1;
        }
        List<Short> numbers = new ArrayList<>(files.getOrDefault(file, List.of()));
        numbers.add(number);
        files.put(file, numbers);
        return numbers.size();
    }

    boolean remove(int file) {
        return files.remove(file) != null;
    }

    int size(int file) {
        return files.containsKey(file) ? files.get(file).size() : -1;
    }

    short number(int file, int i) {
        Objects.checkIndex(i, Math.max(size(file), 0));
        return files.get(file).get(i);
    }

    int did(int k) {
        if (done == null || k < 0 || k >= script.size()) {
            return -1;
        }
        return done.containsKey(k) ? done.get(k).outcome + (done.get(k).ahead ? 4 : 0) : 0;
    }

    int why(int k) {
        return did(k) % 4 == 1 ? done.get(k).why : -1;
    }

    int hazard(int what) {
        return hazard == null || what < 0 || what > 3 ? -1 : hazard[what];
    }

    int again() {
        return again;
    }

    int traces() {
        return store.size();
    }

    int trace(int k, int what) {
        Objects.checkIndex(k, store.size());
        Trace trace = store.get(k);
        int[] parts = {
            trace.text.length(),
            trace.read.keySet().stream().mapToInt(file -> 1 << file).sum(),
            trace.asked.keySet().stream().mapToInt(file -> 1 << file).sum(),
            trace.wrote == null ? -1 : trace.wrote,
            trace.since == null ? -1 : trace.since.size(),
        };
        return what < 0 || what > 4 ? -1 : parts[what];
    }

    boolean tear(int left) {
        if (left < 0 || left >= store.size()) {
            return false;
        }
        store.subList(left, store.size()).clear();
        return true;
    }

    int compact() {
        int before = store.size();
        List<Trace> all = new ArrayList<>(store);
        store.removeIf(trace -> latest(trace.text, all) != trace);
        return before - store.size();
    }

    private static Trace latest(String text, List<Trace> among) {
        Trace latest = null;
        for (Trace trace : among) {
            latest = trace.text.equals(text) ? trace : latest;
        }
        return latest;
    }

    int run(int spare) {
        if (spare < 0 || spare > 4) {
            throw new IllegalArgumentException();
        }
        if (script.isEmpty()) {
            throw new IllegalStateException();
        }
        Map<Integer, List<Short>> begin = new HashMap<>(files);
        runOnce(spare);
        if (hazard != null && speculative) {
            files = begin;
            again++;
            runOnce(0);
        }
        return hazard == null ? 0 : 1;
    }

    private void runOnce(int spare) {
        done = new HashMap<>();
        hazard = null;
        for (int i = 0; i < script.size(); i++) {
            if (!done.containsKey(i)) {
                perform(i, false);
            }
            for (int s = 0; s < spare && hazard == null; s++) {
                for (int j = i + 2; j < script.size(); j++) {
                    if (!done.containsKey(j) && seemsSafe(i, j)) {
                        perform(j, true);
                        break;
                    }
                }
            }
            if (hazard != null) {
                return;
            }
        }
    }

    private boolean seemsSafe(int i, int j) {
        Trace mine = latest(script.get(j), store);
        for (int m = i + 1; m < j && mine != null; m++) {
            Trace its = latest(script.get(m), store);
            if (!done.containsKey(m) && (its == null || its.touches(mine.wrote) || mine.touches(its.wrote))) {
                return false;
            }
        }
        return mine != null;
    }

    private void perform(int k, boolean ahead) {
        String command = script.get(k);
        Trace fitting = null;
        for (Trace trace : store) {
            fitting = trace.text.equals(command) && trace.firstChange(files) == null ? trace : fitting;
        }
        int outcome = 1;
        int why = -1;
        Trace trace = fitting;
        if (fitting == null) {
            Trace latest = latest(command, store);
            why = latest == null ? 12 : latest.firstChange(files);
            trace = traced(command);
            store.add(trace);
            if (store.size() > 24) {
                store.remove(0);
            }
        } else {
            boolean so = fitting.wrote == null || Objects.equals(fitting.since, files.get(fitting.wrote));
            outcome = so ? 2 : 3;
        }
        boolean cameOrWent = trace.wrote != null && files.containsKey(trace.wrote) != (trace.since != null);
        if (trace.wrote != null && trace.since == null) {
            files.remove(trace.wrote);
        } else if (trace.wrote != null) {
            files.put(trace.wrote, trace.since);
        }
        done.put(k, new Done(trace, outcome, ahead, why, cameOrWent));
        findHazard(k);
    }

    private Trace traced(String command) {
        Trace trace = new Trace(command);
        String rest = command;
        while (rest.charAt(0) == '?') {
            List<Short> numbers = read(trace, rest.charAt(1));
            if (numbers.isEmpty() || numbers.get(0) == 0) {
                return trace;
            }
            rest = rest.substring(2);
        }
        trace.wrote = rest.charAt(rest.length() - 1) - 'a';
        List<Short> made = made(trace, rest);
        trace.since = made == null ? null : new ArrayList<>(made.subList(0, Math.min(6, made.size())));
        return trace;
    }

    private List<Short> read(Trace trace, char letter) {
        List<Short> numbers = files.get(letter - 'a');
        trace.read.put(letter - 'a', numbers);
        return numbers == null ? List.of() : numbers;
    }

    private List<Short> made(Trace trace, String rest) {
        char kind = rest.charAt(0);
        List<Short> made = new ArrayList<>();
        if (kind == 'x') {
            return null;
        } else if (kind == 'n') {
            rest.substring(1, rest.length() - 1).chars().forEach(digit -> made.add((short) (digit - '0')));
        } else if (kind == 'l') {
            for (int file = 0; file < 12; file++) {
                trace.asked.put(file, files.containsKey(file));
            }
            files.keySet().stream().sorted().forEach(file -> made.add(file.shortValue()));
        } else if (kind == 'p') {
            boolean there = files.containsKey(rest.charAt(1) - 'a');
            trace.asked.put(rest.charAt(1) - 'a', there);
            made.add((short) (there ? 1 : 0));
        } else if (kind == 'f') {
            made.addAll(read(trace, rest.charAt(2)));
            made.removeIf(number -> number % (rest.charAt(1) - '0') != 0);
        } else if (kind == '+') {
            List<Short> one = read(trace, rest.charAt(1));
            List<Short> two = read(trace, rest.charAt(2));
            for (int i = 0; i < one.size() && i < two.size(); i++) {
                made.add((short) (one.get(i) + two.get(i)));
            }
        } else {
            made.addAll(read(trace, rest.charAt(1)));
            if (kind == 'j') {
                made.addAll(read(trace, rest.charAt(2)));
            } else if (kind == 's') {
                Collections.sort(made);
            }
        }
        return made;
    }

    private void findHazard(int f) {
        for (boolean guess : Arrays.asList(true, false)) {
            for (int e = 0; e < script.size(); e++) {
                if (e == f || !done.containsKey(e) || guess != (done.get(e).ahead || done.get(f).ahead)) {
                    continue;
                }
                for (int kind = 1; kind <= 3; kind++) {
                    if (isHazard(kind, e, f)) {
                        hazard = new int[] {kind, e, f, done.get(kind == 3 ? e : f).trace.wrote};
                        speculative = guess;
                        return;
                    }
                }
            }
        }
    }

    private boolean isHazard(int kind, int e, int f) {
        Done first = done.get(e);
        Done then = done.get(f);
        Integer earlier = first.trace.wrote;
        Integer later = then.trace.wrote;
        if (kind == 1) {
            return earlier != null && earlier.equals(later);
        }
        if (kind == 2) {
            return later != null && (first.trace.read.containsKey(later)
                || then.cameOrWent && first.trace.asked.containsKey(later));
        }
        return e > f && earlier != null && (then.trace.read.containsKey(earlier)
            || first.cameOrWent && then.trace.asked.containsKey(earlier));
    }
}
