/** What the tests share: counting wrong answers, and short ways to fill an object. Some tests have one, some are one. */
class Check {
    static final int A = 0, B = 1, C = 2, D = 3, E = 4, F = 5, G = 6, H = 7, I = 8, J = 9, K = 10, L = 11;

    /** A call that may throw. */
    interface Call {
        void make();
    }

    /** A file that is not there, and one that is there without numbers, for having() and done(). */
    static final int[] GONE = null;
    static final int[] EMPTY = {};

    private final String name;
    private String sentence = "";
    private int sentences = 0;
    private int checks = 0;
    private int checksBefore = 0;
    private int wrong = 0;

    Check(String name) {
        this.name = name;
    }

    /** The words of the document that the checks from here on hold it to. */
    void sentence(String words) {
        endSentence();
        sentence = "[" + words + "] ";
        sentences++;
    }

    /** Some checks, of which an exception that nobody awaits ends none but these. */
    void part(Call checks) {
        try {
            checks.make();
        } catch (RuntimeException e) {
            tell("threw " + e + " at " + e.getStackTrace()[0]);
        }
    }

    private void endSentence() {
        if (sentences > 0 && checks == checksBefore) {
            tell("has no check");
        }
        checksBefore = checks;
    }

    void due(String what, long got, long want) {
        checks++;
        if (got != want) {
            tell(what + " answered " + got + ", due is " + want);
        }
    }

    void due(String what, boolean got, boolean want) {
        due(what, got ? 1 : 0, want ? 1 : 0);
    }

    void throwing(String what, Class<?> want, Call call) {
        checks++;
        Class<?> got = null;
        try {
            call.make();
        } catch (RuntimeException e) {
            got = e.getClass();
        }
        if (got != want) {
            tell(what + " threw " + got + ", due is " + want);
        }
    }

    void file(String what, TracedBuild x, int file, int... numbers) {
        due(what + ": size", x.size(file), numbers.length);
        for (int i = 0; i < numbers.length && i < x.size(file); i++) {
            due(what + ": number " + i, x.number(file, i), numbers[i]);
        }
    }

    void gone(String what, TracedBuild x, int file) {
        due(what + ": size", x.size(file), -1);
    }

    void did(String what, TracedBuild x, int... outcomes) {
        for (int k = 0; k < outcomes.length; k++) {
            due(what + ": did(" + k + ")", x.did(k), outcomes[k]);
        }
    }

    void hazard(String what, TracedBuild x, int... parts) {
        for (int part = 0; part < parts.length; part++) {
            due(what + ": hazard(" + part + ")", x.hazard(part), parts[part]);
        }
    }

    void noHazard(String what, TracedBuild x) {
        hazard(what, x, -1, -1, -1, -1);
    }

    void trace(String what, TracedBuild x, int k, int... parts) {
        for (int part = 0; part < parts.length; part++) {
            due(what + ": trace(" + k + ", " + part + ")", x.trace(k, part), parts[part]);
        }
    }

    private void tell(String text) {
        wrong++;
        System.out.println(name + ": " + sentence + text);
    }

    void end() {
        endSentence();
        String ofSentences = sentences == 0 ? "" : " of " + sentences + " sentences";
        System.out.println(name + ": " + checks + " checks" + ofSentences + ", " + wrong + " wrong");
        if (wrong != 0 || checks == 0) {
            System.exit(1);
        }
    }

    static void type(TracedBuild x, String text) {
        for (int i = 0; i < text.length(); i++) {
            x.type(text.charAt(i));
        }
    }

    static int command(TracedBuild x, String text) {
        type(x, text);
        return x.command();
    }

    static void edit(TracedBuild x, int k, String text) {
        type(x, text);
        x.edit(k);
    }

    static TracedBuild scripted(String... texts) {
        TracedBuild x = new TracedBuild();
        for (String text : texts) {
            command(x, text);
        }
        return x;
    }

    /** Files a, b, .. with these rows; the store is empty, and so is the script. */
    static TracedBuild having(int[]... rows) {
        TracedBuild x = new TracedBuild();
        for (int file = 0; file < rows.length; file++) {
            if (rows[file] != GONE && rows[file].length == 0) {
                makeEmpty(x, file);
            }
        }
        for (int file = 0; file < rows.length; file++) {
            if (rows[file] != GONE) {
                put(x, file, rows[file]);
            }
        }
        return x;
    }

    // Only a command can make a file that is there without numbers; it leaves neither itself nor its trace.
    private static void makeEmpty(TracedBuild x, int file) {
        command(x, "c" + (file == L ? 'k' : 'l') + (char) ('a' + file));
        x.run(0);
        x.drop(0);
        x.tear(0);
    }

    /** The command done once, with files a, b, .. as having() makes them. */
    static TracedBuild done(String text, int[]... rows) {
        TracedBuild x = having(rows);
        command(x, text);
        x.run(0);
        return x;
    }

    static int[] row(int... numbers) {
        return numbers;
    }

    static void put(TracedBuild x, int file, int... numbers) {
        for (int number : numbers) {
            x.put(file, (short) number);
        }
    }

    static void set(TracedBuild x, int file, int... numbers) {
        x.remove(file);
        put(x, file, numbers);
    }
}
