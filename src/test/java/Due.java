/** What the tests have in common: the answers that are due are counted and told if they do not come. */
final class Due {
    interface Call {
        Object answer();
    }

    private static int asked;
    private static int wrong;

    private Due() {
    }

    static void is(String what, Object got, Object want) {
        asked++;
        if (!want.equals(got)) {
            wrong++;
            System.out.println(what + " answered " + got + ", due is " + want);
        }
    }

    static void thrown(String what, Class<? extends RuntimeException> want, Call call) {
        Object got;
        try {
            got = call.answer();
        } catch (RuntimeException e) {
            got = e.getClass();
        }
        is(what, got, want);
    }

    static void end() {
        if (wrong > 0 || asked == 0) {
            System.out.println(wrong + " of " + asked + " wrong");
            System.exit(1);
        }
    }
}
