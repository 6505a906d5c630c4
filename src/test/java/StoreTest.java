/** Promises 14 to 17: traces, trace, tear, compact. */
public final class StoreTest {
    private static void checkParts(Check check) {
        TracedBuild x = Check.scripted("jabc", "pde", "xg", "?hn1i", "?cn12j", "?c?askl", "lf");
        Check.put(x, Check.A, 1, 2);
        Check.put(x, Check.G, 1);
        x.run(0);
        check.due("traces", x.traces(), 7);
        check.trace("j", x, 0, 4, 3, 0, 2, 2, -1);
        check.trace("p", x, 1, 3, 0, 8, 4, 1, -1);
        check.trace("x", x, 2, 2, 0, 0, 6, -1, -1);
        check.trace("? that does not go on", x, 3, 5, 128, 0, -1, -1, -1);
        check.trace("? that goes on", x, 4, 6, 4, 0, 9, 2, -1);
        check.trace("? twice", x, 5, 7, 1 | 4 | 1024, 0, 11, 0, -1);
        check.trace("l", x, 6, 2, 0, 4095, 5, 5, -1);
        check.due("what = -1", x.trace(0, -1), -1);
        check.due("what = MAX", x.trace(0, Integer.MAX_VALUE), -1);
        check.due("what = MIN", x.trace(0, Integer.MIN_VALUE), -1);
        for (int k : new int[] {-1, 7, 24, Integer.MIN_VALUE, Integer.MAX_VALUE}) {
            check.throwing("trace " + k, IndexOutOfBoundsException.class, () -> x.trace(k, 0));
            check.throwing("trace " + k + ", wrong what", IndexOutOfBoundsException.class, () -> x.trace(k, 9));
        }
        TracedBuild twice = Check.scripted("?a?bpcd");
        Check.put(twice, Check.A, 0);
        Check.put(twice, Check.B, 1);
        twice.run(0);
        check.trace("the second ? is not reached", twice, 0, 7, 1, 0, -1, -1);
        Check.set(twice, Check.A, 1);
        twice.run(0);
        check.trace("all is reached", twice, 1, 7, 3, 4, 3, 1);
        twice.remove(Check.D);
        check.trace("as it was then", twice, 1, 7, 3, 4, 3, 1);
    }

    private static void checkLimit(Check check) {
        TracedBuild x = Check.scripted("cab");
        for (int i = 0; i < 24; i++) {
            Check.set(x, Check.A, i);
            x.run(0);
            check.due("traces", x.traces(), i + 1);
        }
        Check.set(x, Check.A, 0);
        x.run(0);
        check.did("the oldest is still there", x, 3);
        Check.set(x, Check.A, 24);
        x.run(0);
        check.due("no more than 24", x.traces(), 24);
        Check.set(x, Check.A, 1);
        x.run(0);
        check.did("the second is the oldest now", x, 3);
        Check.set(x, Check.A, 0);
        x.run(0);
        check.did("the oldest fell out", x, 1);
        Check.set(x, Check.A, 1);
        x.run(0);
        check.did("and then the second", x, 1);
        check.due("a skipped command gets no trace", x.traces(), 24);
        Check.edit(x, 0, "n12e");
        x.run(0);
        check.trace("the latest stands last", x, 23, 4, 0, 0, 4, 2);
        check.trace("the others moved up", x, 22, 3, 1, 0, 1, 1);
    }

    private static void checkTear(Check check) {
        TracedBuild x = Check.scripted("n1a", "n12b", "n123c", "xd");
        check.due("an empty store", x.tear(0), false);
        x.run(0);
        for (int left : new int[] {-1, 4, 5, 24, Integer.MIN_VALUE, Integer.MAX_VALUE}) {
            check.due("tear(" + left + ")", x.tear(left), false);
        }
        check.due("refused", x.traces(), 4);
        check.due("tear(3)", x.tear(3), true);
        check.due("left", x.traces(), 3);
        check.trace("the first ones are left", x, 0, 3, 0, 0, 0, 1);
        check.trace("the first ones are left", x, 2, 5, 0, 0, 2, 3);
        check.throwing("the last is gone", IndexOutOfBoundsException.class, () -> x.trace(3, 0));
        x.run(0);
        check.did("only the last ran", x, 2, 2, 2, 1);
        check.due("tear(0)", x.tear(0), true);
        check.due("nothing left", x.traces(), 0);
        check.due("tear(0) twice", x.tear(0), false);
        x.run(0);
        check.did("all ran", x, 1, 1, 1, 1);
    }

    private static void checkCompact(Check check) {
        TracedBuild x = Check.scripted("cab", "jccd", "xk");
        check.due("an empty store", x.compact(), 0);
        x.run(0);
        check.due("each text once", x.compact(), 0);
        Check.put(x, Check.A, 1);
        x.run(0);
        Check.put(x, Check.C, 7);
        x.run(0);
        Check.put(x, Check.A, 2);
        x.run(0);
        check.due("traces", x.traces(), 6);
        check.due("fell out", x.compact(), 3);
        check.due("traces", x.traces(), 3);
        check.trace("in their order", x, 0, 2, 0, 0, 10, -1);
        check.trace("in their order", x, 1, 4, 4, 0, 3, 2);
        check.trace("in their order", x, 2, 3, 1, 0, 1, 2);
        x.run(0);
        check.did("the latest stayed", x, 2, 2, 2);
        Check.set(x, Check.A, 1);
        x.run(0);
        check.did("an older one fell out", x, 1, 2, 2);
        check.due("traces grow again", x.traces(), 4);
        check.trace("the new one", x, 3, 3, 1, 0, 1, 1);
        check.due("fell out", x.compact(), 1);
        check.due("twice", x.compact(), 0);
    }

    private static void checkCompactFull(Check check) {
        TracedBuild x = Check.scripted("cab");
        for (int i = 0; i < 30; i++) {
            Check.set(x, Check.A, i);
            Check.edit(x, 0, i % 2 == 0 ? "cab" : "jaab");
            x.run(0);
        }
        check.due("fell out of a full store", x.compact(), 22);
        check.trace("the one", x, 0, 3, 1, 0, 1, 1);
        check.trace("the other", x, 1, 4, 1, 0, 1, 2);
        for (int i = 0; i < 40; i++) {
            Check.set(x, Check.A, 100 + i);
            x.run(0);
        }
        check.due("it fills again", x.traces(), 24);
        check.due("and is compacted again", x.compact(), 23);
    }

    public static void main(String[] args) {
        Check check = new Check("StoreTest");
        checkParts(check);
        checkLimit(check);
        checkTear(check);
        checkCompact(check);
        checkCompactFull(check);
        check.end();
    }
}
