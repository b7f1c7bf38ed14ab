import java.util.function.Supplier;

/** What the project's tests share: they count wrong answers, print each, and end with exit code 1 if there was one. */
final class Check {
    private static int wrong = 0;
    private static int asked = 0;

    private Check() {
    }

    static String outcome(Supplier<Object> call) {
        try {
            return String.valueOf(call.get());
        } catch (RuntimeException e) {
            return "throws." + e.getClass().getSimpleName();
        }
    }

    static void same(String what, String got, String due) {
        asked++;
        if (!got.equals(due)) {
            wrong++;
            if (wrong <= 50) {
                System.out.println(what + " answered " + got + ", due is " + due);
            }
        }
    }

    static void due(String what, Supplier<Object> call, Object due) {
        same(what, outcome(call), String.valueOf(due));
    }

    static void end() {
        System.out.println(asked + " answers, " + wrong + " wrong");
        if (wrong != 0) {
            System.exit(1);
        }
    }
}
