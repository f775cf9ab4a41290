/** Counts the answers that are due and those that are not, and ends a test. */
final class Due {
    private final String test;
    private int right;
    private int wrong;
    private String promise = "";

    Due(String test) {
        this.test = test;
    }

    /** The promise that the next answers belong to. */
    void promise(int number, String name) {
        promise = number + " " + name;
    }

    void due(String call, long got, long want) {
        if (got == want) {
            right++;
        } else {
            fault(call + " answered " + got + ", due is " + want);
        }
    }

    void fault(String what) {
        wrong++;
        System.out.println(test + ", promise " + promise + ": " + what);
    }

    void close() {
        System.out.println(test + ": " + right + " answers as due, " + wrong + " not");
        if (wrong != 0 || right == 0) {
            System.exit(1);
        }
    }
}
