/** Promises 2 to 6: type, command, edit, drop, commands. */
public final class ScriptTest {
    private static final Class<?> ARGUMENT = IllegalArgumentException.class;
    private static final Class<?> STATE = IllegalStateException.class;
    private static final Class<?> INDEX = IndexOutOfBoundsException.class;

    private static final String[] COMMANDS = {
        "cab", "cla", "caa", "jabc", "jaaa", "+abc", "+lll", "sab", "saa", "f1ab", "f9ll", "n1a", "n12a", "n123a", "n9999l",
        "pab", "paa", "la", "ll", "xa", "xl", "?axb", "?acab", "?l?k?j?i?hxg", "?a?b?c?dn1a", "?ala", "?a?blc",
        "?an1234b", "?a?b?c?djabc", "?a?b?c?df1ab", "?a?b?cn1234b",
    };

    private static final String[] NO_COMMANDS = {
        "", "c", "ca", "cabc", "cam", "cma", "cAb", "c1b", "jab", "jabcd", "jabm", "jmbc", "jamc", "+ab", "+abcd", "sa", "sabc",
        "f0ab", "fab", "f1a", "f1abc", "f12ab", "fabc", "f1am", "f1mb", "na", "n", "n1", "n0a", "n10a", "n12345a", "n1m", "n1ab",
        "n1234", "pa", "pabc", "pam", "l", "lab", "lm", "l1", "x", "xab", "xm", "?", "?a", "?xa", "?mxa", "?a?", "?a?b", "a?xb",
        "?axbx", "?a?bxm", "?1xa", "??axb", "?acabb", "dab", "Cab", "cab ", " cab", "c ab", "-abc", "cab\0", "\0", "\0cab",
        "??????????", "cccccccccccc", "?a?b?c?d?e?f", "?a", "?aca", "?a?b?c?d?el?", "xa\n",
    };

    private static void checkType(Check check) {
        TracedBuild x = new TracedBuild();
        for (int i = 0; i < 12; i++) {
            check.due("character " + i, x.type((char) (i * 5461)), true);
        }
        check.due("a thirteenth character", x.type('a'), false);
        check.due("a fourteenth character", x.type('b'), false);
        check.throwing("a text of twelve odd characters", ARGUMENT, x::command);
        check.due("the text is empty then", x.type('x'), true);
        x.type('a');
        check.due("a command behind it", x.command(), 0);

        TracedBuild full = new TracedBuild();
        Check.type(full, "?a?b?c?d?exf");
        check.due("one character behind a whole command", full.type('f'), false);
        check.due("what is refused does not spoil the text", full.command(), 0);

        TracedBuild wide = new TracedBuild();
        wide.type('c');
        wide.type((char) ('a' + 256));
        wide.type('b');
        check.throwing("a letter of another page", ARGUMENT, wide::command);
        wide.type((char) ('c' + 256));
        Check.type(wide, "ab");
        check.throwing("a command of another page", ARGUMENT, wide::command);
        wide.type('n');
        wide.type((char) ('1' + 256));
        wide.type('b');
        check.throwing("a digit of another page", ARGUMENT, wide::command);
    }

    private static void checkCommand(Check check) {
        for (String text : COMMANDS) {
            TracedBuild x = new TracedBuild();
            Check.type(x, text);
            check.throwing("command " + text, null, x::command);
            check.due("commands behind " + text, x.commands(), 1);
            check.throwing("the text behind " + text + " is empty", ARGUMENT, x::command);
        }
        for (String text : NO_COMMANDS) {
            TracedBuild x = new TracedBuild();
            Check.type(x, text);
            check.throwing("no command " + text, ARGUMENT, x::command);
            check.due("commands behind " + text, x.commands(), 0);
            check.due("the text behind " + text + " is empty", Check.command(x, "n1234a"), 0);
        }
    }

    private static TracedBuild full() {
        TracedBuild x = new TracedBuild();
        for (int k = 0; k < 10; k++) {
            Check.type(x, "x" + (char) ('a' + k));
            x.command();
        }
        return x;
    }

    private static void checkFull(Check check) {
        TracedBuild numbered = new TracedBuild();
        for (int k = 0; k < 10; k++) {
            check.due("number of a command", Check.command(numbered, "xa"), k);
            check.due("commands", numbered.commands(), k + 1);
        }
        TracedBuild x = full();
        Check.type(x, "n7l");
        check.throwing("an eleventh command", STATE, x::command);
        check.due("commands", x.commands(), 10);
        x.edit(9);
        x.run(0);
        check.file("the text stayed", x, Check.L, 7);
        Check.type(x, "n7");
        check.throwing("an eleventh that is none", ARGUMENT, x::command);
        Check.edit(x, 9, "n8l");
        x.run(0);
        check.file("that text was emptied", x, Check.L, 8);
        x.drop(3);
        check.due("a place is free", Check.command(x, "n3d"), 9);
    }

    private static void checkEdit(Check check) {
        TracedBuild x = Check.scripted("n1a", "n2b", "n3c");
        Check.edit(x, 1, "n4d");
        check.due("commands behind edit", x.commands(), 3);
        x.run(0);
        check.file("before", x, Check.A, 1);
        check.gone("instead", x, Check.B);
        check.file("edited", x, Check.D, 4);
        check.file("behind", x, Check.C, 3);
        Check.type(x, "n5e");
        for (int k : new int[] {-1, 3, 10, Integer.MIN_VALUE, Integer.MAX_VALUE}) {
            check.throwing("edit(" + k + ")", INDEX, () -> x.edit(k));
        }
        check.did("an edit that throws changes nothing", x, 1, 1, 1);
        check.throwing("the text stayed", null, () -> x.edit(0));
        check.did("an edit ends what is told", x, -1, -1, -1);
        check.throwing("the text is empty then", ARGUMENT, () -> x.edit(0));
        Check.type(x, "nn");
        check.throwing("edit(3), text is no command", INDEX, () -> x.edit(3));
        check.throwing("edit, text is no command", ARGUMENT, () -> x.edit(0));
        check.due("the text is empty then, too", Check.command(x, "n9f"), 3);
        x.run(0);
        check.file("the edited one is the one", x, Check.E, 5);
        Check.type(x, "zz");
        check.throwing("a bad edit", ARGUMENT, () -> x.edit(0));
        check.did("a bad edit leaves what is told", x, 1, 2, 2, 1);
    }

    private static void checkDrop(Check check) {
        TracedBuild x = Check.scripted("n1a", "n2b", "n3c", "n4d");
        for (int k : new int[] {-1, 4, 9, 10, Integer.MIN_VALUE, Integer.MAX_VALUE}) {
            check.throwing("drop(" + k + ")", INDEX, () -> x.drop(k));
        }
        check.due("commands", x.commands(), 4);
        x.drop(1);
        check.due("commands behind drop", x.commands(), 3);
        x.run(0);
        check.gone("what fell out", x, Check.B);
        check.did("those behind are numbered anew", x, 1, 1, 1, -1);
        x.drop(2);
        check.due("the next number", Check.command(x, "n5e"), 2);
        x.run(0);
        check.did("the last fell out", x, 2, 2, 1, -1);
        check.file("the new last one", x, Check.E, 5);
        x.drop(0);
        check.due("the next number", Check.command(x, "n6f"), 2);
        check.due("the next number", Check.command(x, "n7g"), 3);
        x.run(0);
        check.did("behind two drops", x, 2, 2, 1, 1);
        check.file("the new last but one", x, Check.F, 6);
        check.file("the new last one", x, Check.G, 7);
        for (int k = 3; k >= 0; k--) {
            x.drop(k);
        }
        check.due("no commands", x.commands(), 0);
        check.throwing("drop of nothing", INDEX, () -> x.drop(0));
        check.throwing("run of nothing", STATE, () -> x.run(0));
        check.due("the text at hand is not touched", Check.command(x, "xa"), 0);
        x.type('x');
        x.drop(0);
        x.type('b');
        check.due("drop leaves the text", x.command(), 0);
    }

    public static void main(String[] args) {
        Check check = new Check("ScriptTest");
        checkType(check);
        checkCommand(check);
        checkFull(check);
        checkEdit(check);
        checkDrop(check);
        check.end();
    }
}
