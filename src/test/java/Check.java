/** Counts what is right and tells what is not. */
class Check {
    private int right = 0;
    private int wrong = 0;
    private int promise = 0;

    void promise(int number) {
        promise = number;
    }

    /** What the checks that come now hold the class against. */
    String under() {
        return "promise " + promise;
    }

    int checks() {
        return right + wrong;
    }

    void same(String call, long got, long due) {
        if (got == due) {
            right++;
        } else {
            fail(call + " answered " + got + ", due is " + due);
        }
    }

    void same(String call, boolean got, boolean due) {
        same(call, got ? 1 : 0, due ? 1 : 0);
    }

    void fail(String told) {
        wrong++;
        System.out.println(under() + ": " + told);
    }

    void illegal(String call, Runnable run) {
        thrown(call, IllegalArgumentException.class, run);
    }

    void noElement(String call, Runnable run) {
        thrown(call, java.util.NoSuchElementException.class, run);
    }

    void noIndex(String call, Runnable run) {
        thrown(call, IndexOutOfBoundsException.class, run);
    }

    private void thrown(String call, Class<?> due, Runnable run) {
        Class<?> got = null;
        try {
            run.run();
        } catch (RuntimeException e) {
            got = e.getClass();
        }
        if (got == due) {
            right++;
        } else {
            fail(call + " threw " + got + ", due is " + due);
        }
    }

    /** Ends the test: with exit code 1 if something was wrong. */
    void end(String name) {
        System.out.println(name + ": " + right + " right, " + wrong + " wrong");
        System.exit(wrong == 0 ? 0 : 1);
    }
}
