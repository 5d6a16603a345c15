/** Counts what a test expects, and tells each answer that is not the one that is due. */
final class Check {
    private int right = 0;
    private int wrong = 0;

    void same(String what, long got, long due) {
        judge(got == due, what + " answered " + got + ", due is " + due);
    }

    void yes(String what, boolean got) {
        judge(got, what + " does not hold");
    }

    /** A subclass does not count: the machine's own exceptions are subclasses of those that the document names. */
    void fails(String what, Class<? extends RuntimeException> due, Runnable call) {
        Class<?> got = null;
        try {
            call.run();
        } catch (RuntimeException thrown) {
            got = thrown.getClass();
        }
        judge(got == due, what + " threw " + got + ", due is " + due);
    }

    void outOfRange(String what, Runnable call) {
        fails(what, IllegalArgumentException.class, call);
    }

    void wrongState(String what, Runnable call) {
        fails(what, IllegalStateException.class, call);
    }

    void noSuch(String what, Runnable call) {
        fails(what, IndexOutOfBoundsException.class, call);
    }

    /** The crates of a stack, from the lowest one up, and none above them. */
    void stack(CraneYard yard, int stack, int... crates) {
        same("height(" + stack + ")", yard.height(stack), crates.length);
        for (int place = 0; place < 5; place++) {
            int due = place < crates.length ? crates[place] : CraneYard.NONE;
            same("at(" + stack + ", " + place + ")", yard.at(stack, place), due);
        }
        for (int crate : crates) {
            same("stackOf(" + crate + ")", yard.stackOf(crate), stack);
        }
    }

    void finish() {
        System.out.println(right + " answers are as due, " + wrong + " are not");
        if (wrong > 0 || right == 0) {
            System.exit(1);
        }
    }

    private void judge(boolean holds, String complaint) {
        if (holds) {
            right++;
        } else {
            wrong++;
            System.out.println(complaint);
        }
    }
}
