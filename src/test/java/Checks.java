/** Counts the answers that are as due and those that are not, and prints the latter. */
final class Checks {
    private int right;
    private int wrong;
    private String subject = "";

    /** Says what the checks that follow are about. */
    void about(String words) {
        subject = words;
    }

    void due(Object due, Object got) {
        due("", due, got);
    }

    void due(String what, Object due, Object got) {
        if (due.equals(got)) {
            right++;
        } else {
            wrong++;
            System.out.println(subject + ": " + what + " answered " + got + ", due is " + due);
        }
    }

    void isTrue(String what, boolean isSo) {
        if (isSo) {
            right++;
        } else {
            wrong++;
            System.out.println(subject + ": not so: " + what);
        }
    }

    /** Ends the test, with exit code 1 if an answer was wrong or there was none. */
    void end(String name) {
        System.out.println(name + ": " + right + " checks as due, " + wrong + " not");
        if (wrong != 0 || right == 0) {
            System.exit(1);
        }
    }
}
