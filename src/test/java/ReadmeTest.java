/** The example of README.md, under 'Using it', with the answers that it tells. */
public final class ReadmeTest {
    public static void main(String[] args) {
        Check check = new Check("ReadmeTest");
        TracedBuild build = new TracedBuild();
        build.put(0, (short) 5);
        build.put(0, (short) 3);
        for (char c : "sab".toCharArray()) {
            build.type(c);
        }
        int k = build.command();
        check.due("the first number", k, 0);
        for (char c : "jbac".toCharArray()) {
            build.type(c);
        }
        check.due("the second number", build.command(), 1);
        check.due("run", build.run(2), 0);
        check.due("did", build.did(k), 1);
        check.due("why", build.why(k), 12);
        check.due("the first number of b", build.number(1, 0), 3);
        build.remove(2);
        build.run(2);
        check.due("skipped", build.did(0), 2);
        check.due("restored", build.did(1), 3);
        build.put(0, (short) 1);
        build.run(2);
        check.due("why", build.why(0), 0);
        check.due("traces", build.traces(), 4);
        check.end();
    }
}
