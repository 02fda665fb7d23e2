/** Counts what is as it should be, and prints what is not. */
final class Check {
    interface Call {
        Object answer();
    }

    private int right = 0;
    private int wrong = 0;

    void is(String what, Object got, Object due) {
        if (due.equals(got)) {
            right++;
        } else {
            wrong++;
            System.out.println(what + " answered " + got + ", due is " + due);
        }
    }

    /** Due is an answer, or the class of the exception that the call must throw. */
    void call(String what, Call call, Object due) {
        is(what, outcome(call), due);
    }

    static Object outcome(Call call) {
        try {
            return call.answer();
        } catch (RuntimeException thrown) {
            return thrown.getClass();
        }
    }

    void end() {
        System.out.println(right + " right, " + wrong + " wrong");
        if (wrong > 0 || right == 0) {
            System.exit(1);
        }
    }
}
