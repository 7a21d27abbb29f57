/** What the tests share: each check that fails is printed and counted. */
final class Checks {
    private static int done = 0;
    private static int wrong = 0;

    private Checks() {
    }

    static void due(String what, Object got, Object want) {
        done++;
        if (!want.equals(got)) {
            wrong++;
            if (wrong <= 50) {
                System.out.println(what + " answered " + got + ", due is " + want);
            }
        }
    }

    /** The call throws just this exception, and changes nothing. */
    static void refused(String what, FountainCues x, Class<? extends Exception> type, Runnable call) {
        long before = x.digest();
        due(what, thrownBy(call), type.getSimpleName());
        due(what + " leaves the state", x.digest(), before);
    }

    static String thrownBy(Runnable call) {
        try {
            call.run();
            return "nothing";
        } catch (Exception e) {
            return e.getClass().getSimpleName();
        }
    }

    static void close(String name) {
        System.out.println(name + ": " + done + " checks, " + wrong + " wrong");
        if (wrong > 0 || done == 0) {
            System.exit(1);
        }
    }
}
