/** What the tests share: each answer against the one that is due, and an exit code at the end. */
final class Check {
    private static final int MOST_TOLD = 40;

    private static int checks = 0;
    private static int wrong = 0;
    private static String about = "";

    private Check() {
    }

    /** What the checks from here on are about: told ahead of each wrong answer. */
    static void about(String words) {
        about = words;
    }

    static void is(String what, long due, long got) {
        checks++;
        if (due != got) {
            say(what + " answered " + got + ", due is " + due);
        }
    }

    static void isText(String what, String due, String got) {
        checks++;
        if (!due.equals(got)) {
            say(what + ":\n  got " + got + "\n  due " + due);
        }
    }

    static int checksSoFar() {
        return checks;
    }

    static void end() {
        System.out.println(checks + " checks, " + wrong + " wrong");
        if (wrong != 0 || checks == 0) {
            System.exit(1);
        }
    }

    private static void say(String text) {
        wrong++;
        if (wrong <= MOST_TOLD) {
            System.out.println(about.isEmpty() ? text : "[" + about + "] " + text);
        }
    }
}
