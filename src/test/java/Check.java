/** Counts what the calls of one test answer against what is due, and tells each that differs. */
final class Check {
    static final int BEYOND = -100001;
    static final int MISSING = -100002;
    static final int SIZE = -100003;
    static final int KIND = -100004;
    static final int FULL = -100005;
    static final int NONE = -100006;
    static final int TAKEN = -100007;
    static final int CUT = -100008;

    private int checked;
    private int wrong;
    private String part = "";

    /** What is told from here on is told under this name. */
    void begin(String name) {
        part = name;
    }

    void due(String what, long want, long got) {
        checked++;
        if (got != want) {
            wrong++;
            System.out.println(part + what + " answered " + got + ", due is " + want);
        }
    }

    void holds(String what, boolean isSo) {
        checked++;
        if (!isSo) {
            wrong++;
            System.out.println(part + what + " does not hold");
        }
    }

    int checked() {
        return checked;
    }

    int wrong() {
        return wrong;
    }

    void end() {
        System.out.println(checked + " answers checked, " + wrong + " not as due");
        if (wrong != 0 || checked == 0) {
            System.exit(1);
        }
    }
}
