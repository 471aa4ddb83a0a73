/** Counts the answers that are not the ones that are due, and prints them. */
final class Check {
    private final String name;
    private int right;
    private int wrong;

    Check(String name) {
        this.name = name;
    }

    void same(String what, long got, long due) {
        if (got == due) {
            right++;
        } else {
            tell(what + " answered " + got + ", due is " + due);
        }
    }

    void isTrue(String what, boolean holds) {
        if (holds) {
            right++;
        } else {
            tell(what);
        }
    }

    void fails(String what, Class<? extends RuntimeException> due, Runnable call) {
        try {
            call.run();
            tell(what + " answered, due is " + due.getSimpleName());
        } catch (RuntimeException thrown) {
            isTrue(what + " threw " + thrown + ", due is " + due.getSimpleName(),
                    thrown.getClass() == due);
        }
    }

    private void tell(String fault) {
        wrong++;
        System.out.println(name + ": " + fault);
    }

    void end() {
        System.out.println(name + ": " + right + " answers as due, " + wrong + " not");
        if (wrong != 0 || right == 0) {
            System.exit(1);
        }
    }
}
