/** Counts answers, prints those that are not as due, and ends a test with exit code 1 if there was one. */
final class Check {
    private final String name;
    private int right = 0;
    private int wrong = 0;

    Check(String name) {
        this.name = name;
    }

    void due(String call, long want, long got) {
        if (want == got) {
            right++;
            return;
        }
        wrong++;
        System.out.println(name + ": " + call + " answered " + got + ", due is " + want);
    }

    void isTrue(String what, boolean holds) {
        if (holds) {
            right++;
            return;
        }
        wrong++;
        System.out.println(name + ": not so: " + what);
    }

    void end() {
        System.out.println(name + ": " + right + " as due, " + wrong + " not as due");
        if (wrong != 0 || right == 0) {
            System.exit(1);
        }
    }
}
