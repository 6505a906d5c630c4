/** Promises 7, 8, 18 and 19 (put, remove, size, number), and what each kind of command makes of the files. */
public final class FilesTest {
    private static final Class<?> INDEX = IndexOutOfBoundsException.class;
    private static final int[] NO_FILES = {-1, 12, 13, 100, Integer.MIN_VALUE, Integer.MAX_VALUE};

    private static void checkPut(Check check) {
        TracedBuild x = new TracedBuild();
        for (int i = 0; i < 6; i++) {
            check.due("put", x.put(11, (short) (i * -6553)), i + 1);
        }
        check.due("a seventh", x.put(11, (short) 1), -1);
        check.file("six numbers", x, 11, 0, -6553, -13106, -19659, -26212, -32765);
        check.due("the least", x.put(0, (short) -32768), 1);
        check.due("the greatest", x.put(0, (short) 32767), 2);
        check.file("extremes", x, 0, -32768, 32767);
        for (int file : NO_FILES) {
            check.due("put in " + file, x.put(file, (short) 1), -1);
            check.due("size of " + file, x.size(file), -1);
            check.due("remove of " + file, x.remove(file), false);
            check.throwing("number of " + file, INDEX, () -> x.number(file, 0));
        }
        check.gone("its neighbour", x, 1);
        for (int i : new int[] {-1, 2, 6, Integer.MIN_VALUE, Integer.MAX_VALUE}) {
            check.throwing("number " + i, INDEX, () -> x.number(0, i));
        }
        check.throwing("number of a file that is not there", INDEX, () -> x.number(1, 0));
    }

    private static void checkRemove(Check check) {
        TracedBuild x = new TracedBuild();
        Check.put(x, 3, 7, 8, 9);
        check.due("remove what is not there", x.remove(2), false);
        check.due("remove", x.remove(3), true);
        check.gone("removed", x, 3);
        check.throwing("number of it", INDEX, () -> x.number(3, 0));
        check.due("remove it twice", x.remove(3), false);
        check.due("it begins anew", x.put(3, (short) 5), 1);
        check.file("anew", x, 3, 5);
    }

    private static void checkToldStill(Check check) {
        TracedBuild x = Check.scripted("cab", "n1c");
        x.run(0);
        check.due("put behind a run", x.put(0, (short) 1), 1);
        check.due("remove behind a run", x.remove(2), true);
        check.did("told still", x, 1, 1);
        check.due("why, told still", x.why(0), 12);
        TracedBuild y = Check.scripted("n1a", "n2a");
        y.run(0);
        y.put(0, (short) 1);
        y.remove(0);
        check.hazard("told still", y, 1, 0, 1, 0);
    }

    private static void checkTaking(Check check) {
        check.file("c", Check.done("cac", Check.row(3, 1, 2), null), Check.C, 3, 1, 2);
        check.file("c of nothing is there, empty", Check.done("cac", null, null), Check.C);
        check.throwing("an empty file has no number", INDEX, () -> Check.done("cac", null, null).number(Check.C, 0));
        check.file("c over more", Check.done("cab", Check.row(4), Check.row(1, 2, 3)), Check.B, 4);
        check.file("j", Check.done("jabc", Check.row(1, 2), Check.row(3)), Check.C, 1, 2, 3);
        check.file("j the other way", Check.done("jbac", Check.row(1, 2), Check.row(3)), Check.C, 3, 1, 2);
        check.file("j is cut at six", Check.done("jabc", Check.row(1, 2, 3, 4), Check.row(5, 6, 7, 8)), Check.C, 1, 2, 3, 4, 5, 6);
        check.file("j of one file into itself", Check.done("jaaa", Check.row(1, 2), null), Check.A, 1, 2, 1, 2);
        check.file("j into the second", Check.done("jabb", Check.row(1), Check.row(2)), Check.B, 1, 2);
        check.file("j with none", Check.done("jabc", null, Check.row(2)), Check.C, 2);
        check.file("+", Check.done("+abc", Check.row(1, 2, 3), Check.row(10, 20)), Check.C, 11, 22);
        check.file("+ the other way", Check.done("+abc", Check.row(1), Check.row(10, 20)), Check.C, 11);
        check.file("+ wraps", Check.done("+abc", Check.row(32767, -32768), Check.row(1, -1)), Check.C, -32768, 32767);
        check.file("+ with none", Check.done("+abc", Check.row(1), null), Check.C);
        check.file("+ into itself", Check.done("+aaa", Check.row(1, 2), null), Check.A, 2, 4);
        check.file("s", Check.done("sac", Check.row(5, -3, 5, 32767, -32768, 0), null), Check.C, -32768, -3, 0, 5, 5, 32767);
        check.file("s of nothing", Check.done("sac", null, null), Check.C);
        check.file("s into itself", Check.done("saa", Check.row(2, 1), null), Check.A, 1, 2);
        check.file("s leaves what it read", Check.done("sac", Check.row(2, 1), null), Check.A, 2, 1);
        check.file("f", Check.done("f3ac", Check.row(6, 7, -3, 0, 9, -4), null), Check.C, 6, -3, 0, 9);
        check.file("f1", Check.done("f1ac", Check.row(5, -5), null), Check.C, 5, -5);
        check.file("f9, none", Check.done("f9ac", Check.row(1, 8), null), Check.C);
    }

    private static void checkOthers(Check check) {
        check.file("n1", Check.done("n7c", null, null), Check.C, 7);
        check.file("n4", Check.done("n9119c", null, null), Check.C, 9, 1, 1, 9);
        check.file("p, there", Check.done("pac", Check.row(0), null), Check.C, 1);
        check.file("p, not there", Check.done("pac", null, null), Check.C, 0);
        check.file("p of itself", Check.done("paa", null, null), Check.A, 0);
        check.file("p of itself, there", Check.done("paa", Check.row(5, 6), null), Check.A, 1);
        check.file("l", Check.done("lc", Check.row(1), Check.row(1)), Check.C, 0, 1);
        check.file("l of nothing, itself not there yet", Check.done("lc", null, null), Check.C);
        TracedBuild many = Check.scripted("lh");
        for (int file = 4; file < 12; file++) {
            Check.put(many, file, 1);
        }
        many.run(0);
        check.file("l, the first six, itself too", many, Check.H, 4, 5, 6, 7, 8, 9);
        check.gone("x", Check.done("xa", Check.row(1), null), Check.A);
        check.gone("x of nothing", Check.done("xa", null, null), Check.A);
        TracedBuild empty = Check.scripted("cab", "pbc", "lf");
        empty.run(0);
        check.file("an empty file is there", empty, Check.C, 1);
        check.file("an empty file is listed", empty, Check.F, 1, 2);
    }

    private static void checkIf(Check check) {
        check.file("? goes on", Check.done("?acbc", Check.row(5), Check.row(7)), Check.C, 7);
        check.file("? goes on below 0", Check.done("?acbc", Check.row(-1), Check.row(7)), Check.C, 7);
        check.gone("? of 0", Check.done("?acbc", Check.row(0, 5), Check.row(7)), Check.C);
        check.gone("? of nothing", Check.done("?acbc", null, Check.row(7)), Check.C);
        TracedBuild empty = Check.scripted("cda", "?an1c");
        empty.run(0);
        check.gone("? of an empty file", empty, Check.C);
        TracedBuild removed = Check.scripted("?an1c");
        Check.put(removed, Check.A, 5);
        removed.remove(Check.A);
        removed.run(0);
        check.gone("? of a file that was there once", removed, Check.C);
        check.file("? twice", Check.done("?a?bn1c", Check.row(5), Check.row(7)), Check.C, 1);
        check.gone("? twice, the second not", Check.done("?a?bn1c", Check.row(5), Check.row(0)), Check.C);
        check.gone("? twice, the first not", Check.done("?a?bn1c", Check.row(0), Check.row(5)), Check.C);
        check.gone("? and x", Check.done("?axa", Check.row(5), null), Check.A);
        check.file("? and x, not", Check.done("?axb", null, Check.row(5)), Check.B, 5);
        check.file("five times", Check.done("?a?b?a?b?alc", Check.row(1), Check.row(2)), Check.C, 0, 1);
        check.file("? and f", Check.done("?af2bc", Check.row(1), Check.row(2, 3, 4)), Check.C, 2, 4);
        check.file("? and n", Check.done("?a?bn4321c", Check.row(1), Check.row(2)), Check.C, 4, 3, 2, 1);
        check.file("? and j", Check.done("?a?b?a?bjabc", Check.row(1), Check.row(2)), Check.C, 1, 2);
        check.file("? and +", Check.done("?a+abc", Check.row(1), Check.row(2)), Check.C, 3);
        check.file("? and s", Check.done("?asac", Check.row(2, 1), null), Check.C, 1, 2);
        check.file("? and p", Check.done("?apbc", Check.row(2, 1), null), Check.C, 0);
    }

    public static void main(String[] args) {
        Check check = new Check("FilesTest");
        checkPut(check);
        checkRemove(check);
        checkToldStill(check);
        checkTaking(check);
        checkOthers(check);
        checkIf(check);
        check.end();
    }
}
