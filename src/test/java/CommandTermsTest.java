import java.util.ArrayList;
import java.util.Arrays;
import java.util.List;

/** 'Terms', on commands: what every kind does with every letter and digit, to all files, and what its trace says of it. */
public final class CommandTermsTest extends Check {
    private static final int FILES = 12;

    private CommandTermsTest() {
        super("CommandTermsTest");
    }

    private static char letter(int file) {
        return (char) ('a' + file);
    }

    private static int bit(int file) {
        return 1 << file;
    }

    /** Three numbers that no other file has, neither rising nor falling. */
    private static int[] ownNumbers(int file) {
        return row(100 * file + 3, -100 * file - 5, 100 * file + 1);
    }

    private static int[][] ownNumbersOfAll() {
        int[][] rows = new int[FILES][];
        for (int file = 0; file < FILES; file++) {
            rows[file] = ownNumbers(file);
        }
        return rows;
    }

    private static int[] joined(int[] one, int[] two) {
        int[] both = Arrays.copyOf(one, one.length + two.length);
        System.arraycopy(two, 0, both, one.length, two.length);
        return both;
    }

    private static int[] sorted(int... numbers) {
        int[] copy = numbers.clone();
        Arrays.sort(copy);
        return copy;
    }

    private static int[] ints(List<Integer> numbers) {
        return numbers.stream().mapToInt(Integer::intValue).toArray();
    }

    private void sameFiles(String what, TracedBuild x, int[][] rows) {
        for (int file = 0; file < FILES; file++) {
            if (rows[file] == GONE) {
                gone(what + ": file " + letter(file), x, file);
            } else {
                file(what + ": file " + letter(file), x, file, rows[file]);
            }
        }
    }

    /** The command, done once upon these files, writes this, leaves all others alone, and its trace says so. */
    private void writes(String text, int[][] before, int read, int asked, int file, int[] numbers) {
        TracedBuild x = done(text, before);
        int[][] due = before.clone();
        due[file] = numbers;
        sameFiles(text, x, due);
        did(text, x, 1);
        due(text + ": traces", x.traces(), 1);
        trace(text, x, 0, text.length(), read, asked, file, numbers == GONE ? -1 : numbers.length);
    }

    private void checkCopy() {
        sentence("cXY: Y gets the numbers of X");
        int[][] all = ownNumbersOfAll();
        for (int x = 0; x < FILES; x++) {
            for (int y = 0; y < FILES; y++) {
                writes("c" + letter(x) + letter(y), all, bit(x), 0, y, all[x]);
            }
        }
    }

    private void checkJoin() {
        sentence("jXYZ: Z gets those of X, then those of Y");
        int[][] all = ownNumbersOfAll();
        for (int x = 0; x < FILES; x++) {
            for (int y = 0; y < FILES; y++) {
                for (int z = 0; z < FILES; z++) {
                    String text = "j" + letter(x) + letter(y) + letter(z);
                    writes(text, all, bit(x) | bit(y), 0, z, joined(all[x], all[y]));
                }
            }
        }
    }

    private void checkSums() {
        sentence("+XYZ: Z gets the sums of the first ones, of the second ones, .. , as long as both have one");
        int[][] all = ownNumbersOfAll();
        for (int x = 0; x < FILES; x++) {
            for (int y = 0; y < FILES; y++) {
                int[] sums = row(all[x][0] + all[y][0], all[x][1] + all[y][1], all[x][2] + all[y][2]);
                for (int z = 0; z < FILES; z++) {
                    writes("+" + letter(x) + letter(y) + letter(z), all, bit(x) | bit(y), 0, z, sums);
                }
            }
        }
    }

    private void checkSort() {
        sentence("sXY: Y gets those of X, sorted, the least first");
        int[][] all = ownNumbersOfAll();
        for (int x = 0; x < FILES; x++) {
            for (int y = 0; y < FILES; y++) {
                writes("s" + letter(x) + letter(y), all, bit(x), 0, y, sorted(all[x]));
            }
        }
        // Every row of up to six numbers out of four.
        for (int many = 0; many <= 6; many++) {
            for (int drawn = 0; drawn < 1 << 2 * many; drawn++) {
                int[] numbers = new int[many];
                for (int i = 0; i < many; i++) {
                    numbers[i] = (drawn >> 2 * i & 3) - 2;
                }
                file("s of " + Arrays.toString(numbers), done("sab", numbers), B, sorted(numbers));
            }
        }
    }

    private void checkDivided() {
        sentence("fdXY: Y gets those of X that d divides without remainder, in their order");
        for (int d = 1; d <= 9; d++) {
            for (int first = -60; first <= 60; first += 6) {
                int[] numbers = new int[6];
                List<Integer> divided = new ArrayList<>();
                for (int i = 0; i < 6; i++) {
                    // Not rising, so that another order would be seen.
                    numbers[i] = first + (i * 5 + 2) % 6;
                    if (Math.abs(numbers[i]) / d * d == Math.abs(numbers[i])) {
                        divided.add(numbers[i]);
                    }
                }
                file("f" + d + " of " + Arrays.toString(numbers), done("f" + d + "ab", numbers), B, ints(divided));
            }
        }
        int[][] all = ownNumbersOfAll();
        for (int x = 0; x < FILES; x++) {
            for (int y = 0; y < FILES; y++) {
                writes("f1" + letter(x) + letter(y), all, bit(x), 0, y, all[x]);
            }
        }
    }

    private void checkDigits() {
        sentence("nd..Y: one to four digits; Y gets these");
        int[][] all = ownNumbersOfAll();
        for (int digits = 1; digits < 10_000; digits++) {
            String text = String.valueOf(digits);
            if (text.indexOf('0') < 0) {
                int[] numbers = text.chars().map(c -> c - '0').toArray();
                int y = digits % FILES;
                file("n" + text, done("n" + text + letter(y)), y, numbers);
            }
        }
        for (int y = 0; y < FILES; y++) {
            writes("n8192" + letter(y), all, 0, 0, y, row(8, 1, 9, 2));
        }
    }

    private static int[][] only(int there) {
        int[][] rows = new int[FILES][];
        for (int file = 0; file < FILES; file++) {
            rows[file] = (there & bit(file)) == 0 ? GONE : row(file + 1);
        }
        return rows;
    }

    private void checkThere() {
        sentence("pXY: Y gets 1 if X is there, else 0");
        for (int x = 0; x < FILES; x++) {
            for (int y = 0; y < FILES; y++) {
                String text = "p" + letter(x) + letter(y);
                writes(text, only(bit(x)), 0, bit(x), y, row(1));
                writes(text, only(4095 & ~bit(x)), 0, bit(x), y, row(0));
            }
        }
    }

    private void checkListed() {
        sentence("lY: Y gets the numbers of the files that are there (0 for a), in their order, the first six");
        for (int there = 0; there < 4096; there++) {
            List<Integer> listed = new ArrayList<>();
            for (int file = 0; file < FILES && listed.size() < 6; file++) {
                if ((there & bit(file)) != 0) {
                    listed.add(file);
                }
            }
            int y = there % FILES;
            TracedBuild x = done("l" + letter(y), only(there));
            file("l with files " + Integer.toBinaryString(there), x, y, ints(listed));
        }
        for (int y = 0; y < FILES; y++) {
            writes("l" + letter(y), only(0b100000010101), 0, 4095, y, row(0, 2, 4, 11));
        }
    }

    private void checkTakenAway() {
        sentence("xX: X is not there any more");
        for (int x = 0; x < FILES; x++) {
            writes("x" + letter(x), ownNumbersOfAll(), 0, 0, x, GONE);
            writes("x" + letter(x), only(4095 & ~bit(x)), 0, 0, x, GONE);
        }
    }

    private void checkIf() {
        sentence("?X and a command: X is read; if it has numbers and the first is not 0, that command is done");
        int[][] all = ownNumbersOfAll();
        for (int x = 0; x < FILES; x++) {
            for (int y = 0; y < FILES; y++) {
                String text = "?" + letter(x) + "n5" + letter(y);
                writes(text, all, bit(x), 0, y, row(5));
                for (int[] not : new int[][] {GONE, EMPTY, row(0), row(0, 1)}) {
                    writesNothing(text, x, not, bit(x));
                    writesNothing("?" + letter(y) + text, x, not, y == x ? bit(x) : bit(x) | bit(y));
                }
            }
        }
        String[] behind = {"cab", "jabc", "+abc", "sab", "f1ab", "n1b", "pab", "lb", "xb", "?kxb"};
        for (String text : behind) {
            writesNothing("?l" + text, L, EMPTY, bit(L));
            TracedBuild alone = done(text, all);
            TracedBuild under = done("?l" + text, all);
            for (int file = 0; file < FILES; file++) {
                due("?l" + text + " does what " + text + " does", under.size(file), alone.size(file));
                for (int i = 0; i < alone.size(file); i++) {
                    due("?l" + text + " does what " + text + " does", under.number(file, i), alone.number(file, i));
                }
            }
            due("?l" + text + " reads one more", under.trace(0, 1), alone.trace(0, 1) | bit(L));
            due("?l" + text + " asks for the same", under.trace(0, 2), alone.trace(0, 2));
        }
    }

    private void writesNothing(String text, int file, int[] numbers, int read) {
        int[][] before = ownNumbersOfAll();
        before[file] = numbers;
        TracedBuild x = done(text, before);
        sameFiles(text + " does not go on", x, before);
        did(text + " does not go on", x, 1);
        trace(text + " does not go on", x, 0, text.length(), read, 0, -1, -1);
    }

    private void checkAsksForAll() {
        sentence("and l asks for all files, whether they are there");
        for (int file = 0; file < FILES; file++) {
            int y = (file + 1) % FILES;
            TracedBuild x = having(only(bit(y)));
            command(x, "l" + letter(y));
            x.run(0);
            put(x, file, 1);
            x.run(0);
            did("file " + letter(file) + " came", x, 1);
            due("file " + letter(file) + " came: why", x.why(0), file);
            put(x, file, 2);
            x.run(0);
            did("file " + letter(file) + " got one number more", x, 2);
            x.remove(file);
            x.run(0);
            did("file " + letter(file) + " went, as at first", x, 3);
        }
    }

    private void checkNotThereIsReadAsNone() {
        sentence("A file that is not there is read as if it had no numbers");
        for (String text : new String[] {"cab", "jaab", "jacb", "jcab", "+acb", "+cab", "sab", "f1ab", "?an1b"}) {
            TracedBuild gone = done(text, GONE, row(1), row(7, 8));
            TracedBuild empty = done(text, EMPTY, row(1), row(7, 8));
            due(text + ": as many", gone.size(B), empty.size(B));
            for (int i = 0; i < empty.size(B); i++) {
                due(text + ": the same", gone.number(B, i), empty.number(B, i));
            }
            gone(text + ": it is not there still", gone, A);
            file(text + ": it is there still", empty, A);
        }
        file("but it is not there to p", done("pab", GONE), B, 0);
        file("nor to l", done("lb", GONE), B);
    }

    private void all() {
        part(this::checkCopy);
        part(this::checkJoin);
        part(this::checkSums);
        part(this::checkSort);
        part(this::checkDivided);
        part(this::checkDigits);
        part(this::checkThere);
        part(this::checkListed);
        part(this::checkTakenAway);
        part(this::checkIf);
        part(this::checkAsksForAll);
        part(this::checkNotThereIsReadAsNone);
        end();
    }

    public static void main(String[] args) {
        new CommandTermsTest().all();
    }
}
