/**
 * Builds files by a script of commands whose reading and writing is traced.
 * Every row is made in a constructor and used again, so that no call makes an object but an exception.
 */
public final class TracedBuild {
    private static final int FILES = 12;
    private static final int MOST_NUMBERS = 6;
    private static final int MOST_CHARACTERS = 12;
    private static final int MOST_COMMANDS = 10;
    private static final int MOST_TRACES = 24;
    private static final int MOST_SPARE = 4;

    private static final int NONE = -1;
    private static final int NO_TRACE = 12;

    private static final int NOT_DONE = 0;
    private static final int RAN = 1;
    private static final int SKIPPED = 2;
    private static final int RESTORED = 3;
    private static final int AHEAD = 4;

    private static final int KINDS_OF_HAZARD = 3;

    private final Text hand;
    private final Script script;
    private final Shelf files;
    private final Shelf filesAtBegin;
    private final Store store;
    private final Log log;
    private boolean logHolds;
    private int runsOnceMore;

    public TracedBuild() {
        hand = new Text();
        script = new Script();
        files = new Shelf(FILES);
        filesAtBegin = new Shelf(FILES);
        store = new Store();
        log = new Log();
        logHolds = false;
        runsOnceMore = 0;
    }

    public boolean type(char c) {
        return hand.append(c);
    }

    public int command() throws IllegalArgumentException, IllegalStateException {
        refuseNoCommand();
        if (script.isFull()) {
            throw new IllegalStateException();
        }
        int k = script.append(hand);
        scriptChanged();
        hand.clear();
        return k;
    }

    public void edit(int k) throws IndexOutOfBoundsException, IllegalArgumentException {
        refuseNoPlace(k);
        refuseNoCommand();
        script.at(k).become(hand);
        scriptChanged();
        hand.clear();
    }

    public void drop(int k) throws IndexOutOfBoundsException {
        refuseNoPlace(k);
        script.takeOut(k);
        scriptChanged();
    }

    public int commands() {
        return script.length();
    }

    public int put(int file, short number) {
        if (!isFile(file) || !files.append(file, number)) {
            return NONE;
        }
        return files.length(file);
    }

    public boolean remove(int file) {
        if (!isFile(file) || !files.isThere(file)) {
            return false;
        }
        files.takeAway(file);
        return true;
    }

    public int run(int spare) throws IllegalArgumentException, IllegalStateException {
        if (spare < 0 || spare > MOST_SPARE) {
            throw new IllegalArgumentException();
        }
        if (script.length() == 0) {
            throw new IllegalStateException();
        }
        filesAtBegin.becomeAll(files);
        logHolds = true;
        goThrough(spare);
        if (log.isSpeculative()) {
            files.becomeAll(filesAtBegin);
            runsOnceMore++;
            goThrough(0);
        }
        return log.hasHazard() ? 1 : 0;
    }

    public int did(int k) {
        return isTold(k) ? log.deed(k).outcome : NONE;
    }

    public int why(int k) {
        return isTold(k) ? log.deed(k).reason : NONE;
    }

    public int hazard(int what) {
        return logHolds ? log.hazardPart(what) : NONE;
    }

    public int again() {
        return runsOnceMore;
    }

    public int traces() {
        return store.length();
    }

    public int trace(int k, int what) throws IndexOutOfBoundsException {
        if (k < 0 || k >= store.length()) {
            throw new IndexOutOfBoundsException();
        }
        return store.at(k).part(what);
    }

    public boolean tear(int left) {
        return store.cutTo(left);
    }

    public int compact() {
        return store.keepLatest();
    }

    public int size(int file) {
        if (!isFile(file) || !files.isThere(file)) {
            return NONE;
        }
        return files.length(file);
    }

    public short number(int file, int i) throws IndexOutOfBoundsException {
        if (!isFile(file) || i < 0 || i >= files.length(file)) {
            throw new IndexOutOfBoundsException();
        }
        return files.at(file, i);
    }

    private void refuseNoCommand() {
        if (!hand.isCommand()) {
            hand.clear();
            throw new IllegalArgumentException();
        }
    }

    private void refuseNoPlace(int k) {
        if (!script.has(k)) {
            throw new IndexOutOfBoundsException();
        }
    }

    private void scriptChanged() {
        logHolds = false;
    }

    private boolean isTold(int k) {
        return logHolds && script.has(k);
    }

    private void goThrough(int spare) {
        int length = script.length();
        log.begin(length);
        for (int i = 0; i < length && !log.hasHazard(); i++) {
            if (!log.deed(i).isDone()) {
                perform(i, false);
            }
            for (int hands = 0; hands < spare && !log.hasHazard(); hands++) {
                int j = firstToGoAhead(i);
                if (j == NONE) {
                    break;
                }
                perform(j, true);
            }
        }
    }

    private int firstToGoAhead(int i) {
        for (int j = i + 2; j < script.length(); j++) {
            if (!log.deed(j).isDone() && seemsSafeAhead(i, j)) {
                return j;
            }
        }
        return NONE;
    }

    private boolean seemsSafeAhead(int i, int j) {
        Trace ahead = store.latest(script.at(j));
        if (ahead == null) {
            return false;
        }
        for (int m = i + 1; m < j; m++) {
            if (!log.deed(m).isDone()) {
                Trace passed = store.latest(script.at(m));
                if (passed == null || passed.isInTheWayOf(ahead)) {
                    return false;
                }
            }
        }
        return true;
    }

    private void perform(int k, boolean ahead) {
        Text text = script.at(k);
        int thereBefore = files.thoseThere();
        int outcome = RAN;
        int reason = NONE;
        Trace trace = store.fitting(text, files);
        if (trace == null) {
            // The reason comes first: the new trace may push the one that tells it out of the store.
            reason = store.reasonToRun(text, files);
            trace = store.append();
            Craft.work(trace, text, files);
            trace.putBack(files);
        } else {
            outcome = trace.putBack(files) ? RESTORED : SKIPPED;
        }
        Deed deed = log.deed(k);
        deed.keepOutcome(outcome, ahead, reason);
        deed.keepTraced(trace, thereBefore ^ files.thoseThere());
        log.lookForHazard(k);
    }

    private static boolean isFile(int file) {
        return file >= 0 && file < FILES;
    }

    private static int firstOf(int setOfFiles) {
        for (int file = 0; file < FILES; file++) {
            if ((setOfFiles & (1 << file)) != 0) {
                return file;
            }
        }
        return NONE;
    }

    /** A text of at most twelve characters, be it a command or not. */
    private static final class Text {
        private final char[] characters;
        private int length;

        Text() {
            characters = new char[MOST_CHARACTERS];
            length = 0;
        }

        int length() {
            return length;
        }

        char at(int i) {
            return i >= 0 && i < length ? characters[i] : 0;
        }

        boolean append(char c) {
            if (length >= MOST_CHARACTERS) {
                return false;
            }
            characters[length] = c;
            length++;
            return true;
        }

        void clear() {
            length = 0;
        }

        void become(Text other) {
            length = other.length;
            for (int i = 0; i < length; i++) {
                characters[i] = other.characters[i];
            }
        }

        boolean isSame(Text other) {
            if (length != other.length) {
                return false;
            }
            for (int i = 0; i < length; i++) {
                if (characters[i] != other.characters[i]) {
                    return false;
                }
            }
            return true;
        }

        int fileAt(int i) {
            char c = at(i);
            return c >= 'a' && c <= 'l' ? c - 'a' : NONE;
        }

        int digitAt(int i) {
            char c = at(i);
            return c >= '1' && c <= '9' ? c - '0' : NONE;
        }

        boolean isCommand() {
            int start = 0;
            while (start < length && at(start) == '?' && fileAt(start + 1) != NONE) {
                start += 2;
            }
            return isPlainCommand(start);
        }

        private boolean isPlainCommand(int start) {
            int kind = at(start);
            switch (kind) {
                case 'l':
                case 'x':
                    return isFilesToEnd(start + 1, 1);
                case 'c':
                case 's':
                case 'p':
                    return isFilesToEnd(start + 1, 2);
                case 'j':
                case '+':
                    return isFilesToEnd(start + 1, 3);
                case 'f':
                    return digitAt(start + 1) != NONE && isFilesToEnd(start + 2, 2);
                case 'n':
                    return isDigitsAndFile(start + 1);
                default:
                    return false;
            }
        }

        private boolean isFilesToEnd(int from, int many) {
            if (length != from + many) {
                return false;
            }
            for (int i = from; i < length; i++) {
                if (fileAt(i) == NONE) {
                    return false;
                }
            }
            return true;
        }

        private boolean isDigitsAndFile(int from) {
            int last = length - 1;
            if (last < from + 1 || last > from + 4) {
                return false;
            }
            for (int i = from; i < last; i++) {
                if (digitAt(i) == NONE) {
                    return false;
                }
            }
            return fileAt(last) != NONE;
        }
    }

    /** The commands, in their order. */
    private static final class Script {
        private final Text[] texts;
        private int length;

        Script() {
            texts = new Text[MOST_COMMANDS];
            for (int k = 0; k < MOST_COMMANDS; k++) {
                texts[k] = new Text();
            }
            length = 0;
        }

        int length() {
            return length;
        }

        boolean isFull() {
            return length >= MOST_COMMANDS;
        }

        boolean has(int k) {
            return k >= 0 && k < length;
        }

        Text at(int k) {
            return texts[k];
        }

        int append(Text text) {
            texts[length].become(text);
            length++;
            return length - 1;
        }

        void takeOut(int k) {
            Text out = texts[k];
            for (int i = k; i + 1 < length; i++) {
                texts[i] = texts[i + 1];
            }
            length--;
            texts[length] = out;
        }
    }

    /** Places for files: what stands in one has up to six numbers, or is not there. */
    private static final class Shelf {
        private static final int NOT_THERE = -1;

        private final int[] lengths;
        private final short[] numbers;

        Shelf(int places) {
            lengths = new int[places];
            for (int place = 0; place < places; place++) {
                lengths[place] = NOT_THERE;
            }
            numbers = new short[places * MOST_NUMBERS];
        }

        boolean isThere(int place) {
            return lengths[place] != NOT_THERE;
        }

        int length(int place) {
            return lengths[place] < 0 ? 0 : lengths[place];
        }

        short at(int place, int i) {
            return numbers[place * MOST_NUMBERS + i];
        }

        void takeAway(int place) {
            lengths[place] = NOT_THERE;
        }

        void makeEmpty(int place) {
            lengths[place] = 0;
        }

        boolean append(int place, short number) {
            int length = length(place);
            if (length >= MOST_NUMBERS) {
                return false;
            }
            numbers[place * MOST_NUMBERS + length] = number;
            lengths[place] = length + 1;
            return true;
        }

        void become(int place, Shelf other, int otherPlace) {
            lengths[place] = other.lengths[otherPlace];
            for (int i = 0; i < lengths[place]; i++) {
                numbers[place * MOST_NUMBERS + i] = other.numbers[otherPlace * MOST_NUMBERS + i];
            }
        }

        void becomeAll(Shelf other) {
            for (int file = 0; file < FILES; file++) {
                become(file, other, file);
            }
        }

        boolean isSame(int place, Shelf other, int otherPlace) {
            if (lengths[place] != other.lengths[otherPlace]) {
                return false;
            }
            for (int i = 0; i < lengths[place]; i++) {
                if (numbers[place * MOST_NUMBERS + i] != other.numbers[otherPlace * MOST_NUMBERS + i]) {
                    return false;
                }
            }
            return true;
        }

        int thoseThere() {
            int there = 0;
            for (int file = 0; file < FILES; file++) {
                if (lengths[file] != NOT_THERE) {
                    there |= 1 << file;
                }
            }
            return there;
        }

        void sort(int place) {
            int start = place * MOST_NUMBERS;
            for (int sorted = 1; sorted < length(place); sorted++) {
                short moved = numbers[start + sorted];
                int gap = sorted;
                while (gap > 0 && numbers[start + gap - 1] > moved) {
                    numbers[start + gap] = numbers[start + gap - 1];
                    gap--;
                }
                numbers[start + gap] = moved;
            }
        }
    }

    /** What a command's text read, asked for and wrote when it ran. */
    private static final class Trace {
        private static final int RESULT = FILES;

        private final Text text;
        // All files as they were then, though only those read and asked for count, and behind them what was written.
        private final Shelf shelf;
        private int read;
        private int asked;
        private int wrote;

        Trace() {
            text = new Text();
            shelf = new Shelf(FILES + 1);
            read = 0;
            asked = 0;
            wrote = NONE;
        }

        void begin(Text ofText, Shelf files) {
            text.become(ofText);
            shelf.becomeAll(files);
            read = 0;
            asked = 0;
            wrote = NONE;
        }

        boolean isOf(Text other) {
            return text.isSame(other);
        }

        int written() {
            return wrote == NONE ? 0 : 1 << wrote;
        }

        int readAndChanged(Shelf files) {
            int changed = 0;
            for (int file = 0; file < FILES; file++) {
                if ((read & (1 << file)) != 0 && !shelf.isSame(file, files, file)) {
                    changed |= 1 << file;
                }
            }
            return changed;
        }

        int askedAndChanged(Shelf files) {
            return asked & (shelf.thoseThere() ^ files.thoseThere());
        }

        boolean fits(Shelf files) {
            return askedAndChanged(files) == 0 && readAndChanged(files) == 0;
        }

        boolean putBack(Shelf files) {
            if (wrote == NONE || files.isSame(wrote, shelf, RESULT)) {
                return false;
            }
            files.become(wrote, shelf, RESULT);
            return true;
        }

        boolean isInTheWayOf(Trace other) {
            return (written() & other.touched()) != 0 || (other.written() & touched()) != 0;
        }

        private int touched() {
            return read | asked | written();
        }

        int part(int what) {
            switch (what) {
                case 0:
                    return text.length();
                case 1:
                    return read;
                case 2:
                    return asked;
                case 3:
                    return wrote;
                case 4:
                    return wrote == NONE || !shelf.isThere(RESULT) ? NONE : shelf.length(RESULT);
                default:
                    return NONE;
            }
        }
    }

    /** The latest traces, the oldest first. */
    private static final class Store {
        private final Trace[] rows;
        private int length;

        Store() {
            rows = new Trace[MOST_TRACES];
            for (int k = 0; k < MOST_TRACES; k++) {
                rows[k] = new Trace();
            }
            length = 0;
        }

        int length() {
            return length;
        }

        Trace at(int k) {
            return rows[k];
        }

        Trace latest(Text text) {
            for (int k = length - 1; k >= 0; k--) {
                if (rows[k].isOf(text)) {
                    return rows[k];
                }
            }
            return null;
        }

        Trace fitting(Text text, Shelf files) {
            for (int k = length - 1; k >= 0; k--) {
                if (rows[k].isOf(text) && rows[k].fits(files)) {
                    return rows[k];
                }
            }
            return null;
        }

        int reasonToRun(Text text, Shelf files) {
            Trace latest = latest(text);
            if (latest == null) {
                return NO_TRACE;
            }
            int read = latest.readAndChanged(files);
            return firstOf(read != 0 ? read : latest.askedAndChanged(files));
        }

        Trace append() {
            if (length < MOST_TRACES) {
                length++;
                return rows[length - 1];
            }
            Trace oldest = rows[0];
            for (int k = 0; k + 1 < MOST_TRACES; k++) {
                rows[k] = rows[k + 1];
            }
            rows[MOST_TRACES - 1] = oldest;
            return oldest;
        }

        boolean cutTo(int left) {
            if (left < 0 || left >= length) {
                return false;
            }
            length = left;
            return true;
        }

        int keepLatest() {
            int before = length;
            int kept = 0;
            for (int k = 0; k < before; k++) {
                if (!isFollowedByItsLike(k)) {
                    swap(kept, k);
                    kept++;
                }
            }
            length = kept;
            return before - kept;
        }

        private boolean isFollowedByItsLike(int k) {
            for (int later = k + 1; later < length; later++) {
                if (rows[later].isOf(rows[k].text)) {
                    return true;
                }
            }
            return false;
        }

        // Rows that fall out are kept behind the others, to be used again.
        private void swap(int k, int other) {
            Trace row = rows[k];
            rows[k] = rows[other];
            rows[other] = row;
        }
    }

    /** Works out what a command does and leaves it in its trace; the files themselves are not touched. */
    private static final class Craft {
        static void work(Trace trace, Text text, Shelf files) {
            trace.begin(text, files);
            int start = 0;
            while (start < text.length() && text.at(start) == '?') {
                int file = read(trace, start + 1);
                if (trace.shelf.length(file) == 0 || trace.shelf.at(file, 0) == 0) {
                    return;
                }
                start += 2;
            }
            workPlain(trace, start);
        }

        private static void workPlain(Trace trace, int start) {
            trace.wrote = trace.text.fileAt(trace.text.length() - 1);
            trace.shelf.makeEmpty(Trace.RESULT);
            int kind = trace.text.at(start);
            switch (kind) {
                case 'c':
                    copy(trace, read(trace, start + 1));
                    break;
                case 'j':
                    copy(trace, read(trace, start + 1));
                    copy(trace, read(trace, start + 2));
                    break;
                case '+':
                    sum(trace, read(trace, start + 1), read(trace, start + 2));
                    break;
                case 's':
                    copy(trace, read(trace, start + 1));
                    trace.shelf.sort(Trace.RESULT);
                    break;
                case 'f':
                    copyDivided(trace, trace.text.digitAt(start + 1), read(trace, start + 2));
                    break;
                case 'n':
                    copyDigits(trace, start + 1);
                    break;
                case 'p':
                    tellIfThere(trace, trace.text.fileAt(start + 1));
                    break;
                case 'l':
                    listFiles(trace);
                    break;
                default:
                    trace.shelf.takeAway(Trace.RESULT);
                    break;
            }
        }

        private static int read(Trace trace, int i) {
            int file = trace.text.fileAt(i);
            trace.read |= 1 << file;
            return file;
        }

        private static void copy(Trace trace, int file) {
            for (int i = 0; i < trace.shelf.length(file); i++) {
                trace.shelf.append(Trace.RESULT, trace.shelf.at(file, i));
            }
        }

        private static void sum(Trace trace, int file, int other) {
            int both = Math.min(trace.shelf.length(file), trace.shelf.length(other));
            for (int i = 0; i < both; i++) {
                trace.shelf.append(Trace.RESULT, (short) (trace.shelf.at(file, i) + trace.shelf.at(other, i)));
            }
        }

        private static void copyDivided(Trace trace, int divisor, int file) {
            for (int i = 0; i < trace.shelf.length(file); i++) {
                short number = trace.shelf.at(file, i);
                if (divisor > 0 && number % divisor == 0) {
                    trace.shelf.append(Trace.RESULT, number);
                }
            }
        }

        private static void copyDigits(Trace trace, int from) {
            for (int i = from; i < trace.text.length() - 1; i++) {
                trace.shelf.append(Trace.RESULT, (short) trace.text.digitAt(i));
            }
        }

        private static void tellIfThere(Trace trace, int file) {
            trace.asked |= 1 << file;
            trace.shelf.append(Trace.RESULT, (short) (trace.shelf.isThere(file) ? 1 : 0));
        }

        private static void listFiles(Trace trace) {
            for (int file = 0; file < FILES; file++) {
                trace.asked |= 1 << file;
                if (trace.shelf.isThere(file)) {
                    trace.shelf.append(Trace.RESULT, (short) file);
                }
            }
        }
    }

    /** What one command did in a run. */
    private static final class Deed {
        private int outcome;
        private int reason;
        private boolean ahead;
        // Sets of files, bit f for file f.
        private int read;
        private int asked;
        private int written;
        private int cameOrWent;

        void forget() {
            outcome = NOT_DONE;
            reason = NONE;
            ahead = false;
        }

        boolean isDone() {
            return outcome != NOT_DONE;
        }

        void keepOutcome(int plainOutcome, boolean wasAhead, int reasonToRun) {
            outcome = wasAhead ? plainOutcome + AHEAD : plainOutcome;
            ahead = wasAhead;
            reason = reasonToRun;
        }

        // Kept apart from the trace, which may fall out of the store in the same run.
        void keepTraced(Trace trace, int filesThatCameOrWent) {
            read = trace.read;
            asked = trace.asked;
            written = trace.written();
            cameOrWent = filesThatCameOrWent;
        }
    }

    /** What the commands did in the latest run, and the hazard that ended it. */
    private static final class Log {
        private final Deed[] deeds;
        private int length;
        private int kind;
        private int earlier;
        private int later;
        private int file;
        private boolean speculative;

        Log() {
            deeds = new Deed[MOST_COMMANDS];
            for (int k = 0; k < MOST_COMMANDS; k++) {
                deeds[k] = new Deed();
            }
            length = 0;
            kind = NONE;
        }

        void begin(int commands) {
            length = commands;
            for (int k = 0; k < length; k++) {
                deeds[k].forget();
            }
            kind = NONE;
            speculative = false;
        }

        Deed deed(int k) {
            return deeds[k];
        }

        boolean hasHazard() {
            return kind != NONE;
        }

        boolean isSpeculative() {
            return hasHazard() && speculative;
        }

        int hazardPart(int what) {
            if (!hasHazard()) {
                return NONE;
            }
            switch (what) {
                case 0:
                    return kind;
                case 1:
                    return earlier;
                case 2:
                    return later;
                case 3:
                    return file;
                default:
                    return NONE;
            }
        }

        void lookForHazard(int f) {
            lookForHazard(f, true);
            if (!hasHazard()) {
                lookForHazard(f, false);
            }
        }

        private void lookForHazard(int f, boolean ofSpeculation) {
            for (int e = 0; e < length && !hasHazard(); e++) {
                boolean guessed = deeds[e].ahead || deeds[f].ahead;
                if (e != f && deeds[e].isDone() && guessed == ofSpeculation) {
                    lookBetween(e, f, guessed);
                }
            }
        }

        private void lookBetween(int e, int f, boolean guessed) {
            for (int candidate = 1; candidate <= KINDS_OF_HAZARD; candidate++) {
                int inTheWay = filesInTheWay(candidate, e, f);
                if (inTheWay != 0) {
                    kind = candidate;
                    earlier = e;
                    later = f;
                    file = firstOf(inTheWay);
                    speculative = guessed;
                    return;
                }
            }
        }

        private int filesInTheWay(int candidate, int e, int f) {
            Deed first = deeds[e];
            Deed then = deeds[f];
            switch (candidate) {
                case 1:
                    return first.written & then.written;
                case 2:
                    return (first.read & then.written) | (first.asked & then.cameOrWent);
                default:
                    return e > f ? (first.written & then.read) | (first.cameOrWent & then.asked) : 0;
            }
        }
    }
}
