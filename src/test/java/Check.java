/** Counts and prints the answers that are not as due, and ends a test with exit code 1 if there was one. */
final class Check {
    private static int asked = 0;
    private static int wrong = 0;
    private static String part = "";

    private Check() {
    }

    static void part(String name) {
        part = name;
    }

    static void due(String call, long got, long want) {
        asked++;
        if (got != want) {
            wrong++;
            if (wrong <= 40) {
                System.out.println(part + ": " + call + " answered " + got + ", due is " + want);
            }
        }
    }

    static int asked() {
        return asked;
    }

    static void that(String what, boolean holds) {
        due(what, holds ? 1 : 0, 1);
    }

    static void end() {
        System.out.println(asked + " answers, " + wrong + " not as due");
        System.exit(wrong == 0 ? 0 : 1);
    }
}
