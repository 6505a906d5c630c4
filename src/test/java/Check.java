/** What the tests share: counting wrong answers, and short ways to fill an object. */
final class Check {
    static final int A = 0, B = 1, C = 2, D = 3, E = 4, F = 5, G = 6, H = 7, I = 8, J = 9, K = 10, L = 11;

    /** A call that may throw. */
    interface Call {
        void make();
    }

    private final String name;
    private int checks = 0;
    private int wrong = 0;

    Check(String name) {
        this.name = name;
    }

    void due(String what, long got, long want) {
        checks++;
        if (got != want) {
            tell(what + " answered " + got + ", due is " + want);
        }
    }

    void due(String what, boolean got, boolean want) {
        due(what, got ? 1 : 0, want ? 1 : 0);
    }

    void throwing(String what, Class<?> want, Call call) {
        checks++;
        Class<?> got = null;
        try {
            call.make();
        } catch (RuntimeException e) {
            got = e.getClass();
        }
        if (got != want) {
            tell(what + " threw " + got + ", due is " + want);
        }
    }

    void file(String what, TracedBuild x, int file, int... numbers) {
        due(what + ": size", x.size(file), numbers.length);
        for (int i = 0; i < numbers.length && i < x.size(file); i++) {
            due(what + ": number " + i, x.number(file, i), numbers[i]);
        }
    }

    void gone(String what, TracedBuild x, int file) {
        due(what + ": size", x.size(file), -1);
    }

    void did(String what, TracedBuild x, int... outcomes) {
        for (int k = 0; k < outcomes.length; k++) {
            due(what + ": did(" + k + ")", x.did(k), outcomes[k]);
        }
    }

    void hazard(String what, TracedBuild x, int... parts) {
        for (int part = 0; part < parts.length; part++) {
            due(what + ": hazard(" + part + ")", x.hazard(part), parts[part]);
        }
    }

    void noHazard(String what, TracedBuild x) {
        hazard(what, x, -1, -1, -1, -1);
    }

    void trace(String what, TracedBuild x, int k, int... parts) {
        for (int part = 0; part < parts.length; part++) {
            due(what + ": trace(" + k + ", " + part + ")", x.trace(k, part), parts[part]);
        }
    }

    private void tell(String text) {
        wrong++;
        System.out.println(name + ": " + text);
    }

    void end() {
        System.out.println(name + ": " + checks + " checks, " + wrong + " wrong");
        if (wrong != 0 || checks == 0) {
            System.exit(1);
        }
    }

    static void type(TracedBuild x, String text) {
        for (int i = 0; i < text.length(); i++) {
            x.type(text.charAt(i));
        }
    }

    static int command(TracedBuild x, String text) {
        type(x, text);
        return x.command();
    }

    static void edit(TracedBuild x, int k, String text) {
        type(x, text);
        x.edit(k);
    }

    static TracedBuild scripted(String... texts) {
        TracedBuild x = new TracedBuild();
        for (String text : texts) {
            command(x, text);
        }
        return x;
    }

    static void put(TracedBuild x, int file, int... numbers) {
        for (int number : numbers) {
            x.put(file, (short) number);
        }
    }

    static void set(TracedBuild x, int file, int... numbers) {
        x.remove(file);
        put(x, file, numbers);
    }
}
