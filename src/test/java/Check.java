import java.util.Objects;

/** Counts the answers that are not the ones that are due, for one test program. */
final class Check {
    private static int made = 0;
    private static int wrong = 0;

    private Check() {
    }

    static void due(String what, Object got, Object want) {
        made++;
        if (!Objects.equals(got, want)) {
            wrong++;
            System.out.println(what + ": answered " + got + ", due is " + want);
        }
    }

    /** The call throws just this exception and changes nothing that can be seen of the stream. */
    static void refused(String what, SluiceStream x, Class<? extends RuntimeException> kind, Runnable call) {
        String before = State.of(x);
        Object thrown = "nothing";
        try {
            call.run();
        } catch (RuntimeException e) {
            thrown = e.getClass();
        }
        due(what + ": throws", thrown, kind);
        due(what + ": leaves", State.of(x), before);
    }

    static void close(Class<?> test) {
        System.out.println(test.getName() + ": " + made + " checks, " + wrong + " wrong");
        if (wrong != 0 || made == 0) {
            System.exit(1);
        }
    }
}
