/** Counts the answers that are not as due; end() ends the program with 1 if there was one. */
final class Check {
    private final String name;
    private int done;
    private int wrong;

    Check(String itsName) {
        name = itsName;
    }

    void is(String what, long due, long got) {
        done++;
        if (due != got) {
            wrong++;
            System.out.println(name + ": " + what + " is " + got + ", due is " + due);
        }
    }

    void is(String what, boolean due, boolean got) {
        is(what, due ? 1 : 0, got ? 1 : 0);
    }

    void is(String what, String due, String got) {
        done++;
        if (!due.equals(got)) {
            wrong++;
            System.out.println(name + ": " + what + " is " + got + ", due is " + due);
        }
    }

    void end() {
        System.out.println(name + ": " + done + " answers, " + wrong + " wrong");
        if (wrong != 0) {
            System.exit(1);
        }
    }
}
