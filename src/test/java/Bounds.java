import java.util.function.Consumer;

/** Runs tests of boundary cases: each is for one sentence of the document, whose promise it names, on a new object. */
final class Bounds {

    private static String promise = "";
    private static String sentence = "";
    private static boolean holds = true;
    private static int tests = 0;
    private static int failed = 0;

    private Bounds() {
    }

    /** Names the promise, or the section ahead of promise 1, that the tests behind this are for. */
    static void promise(String name) {
        promise = name;
    }

    static void test(String text, Consumer<Run> body) {
        sentence = text;
        holds = true;
        tests++;
        try {
            body.accept(new Run());
        } catch (RuntimeException | AssertionError e) {
            fail("the test ended with " + e);
        }
        if (!holds) {
            failed++;
        }
    }

    static void same(String what, Object want, Object got) {
        if (!want.equals(got)) {
            fail(what + " is " + got + ", due is " + want);
        }
    }

    private static void fail(String what) {
        holds = false;
        System.out.println(promise + ": " + sentence + ": " + what);
    }

    static void end() {
        System.out.println("tests of boundary cases that hold: " + (tests - failed) + " of " + tests);
        System.exit(failed == 0 ? 0 : 1);
    }
}
