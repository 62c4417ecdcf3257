import java.util.Objects;

/** Counts what is not as due, and ends the program with exit code 1 if there was anything. */
final class Check {
    private String part = "";
    private int asked = 0;
    private int wrong = 0;

    /** Runs all parts, each of them also when an earlier one ended with an exception that is not due. */
    void each(Runnable... parts) {
        for (Runnable one : parts) {
            try {
                one.run();
            } catch (RuntimeException e) {
                wrong++;
                System.out.println(part + ": ended by " + e + " at " + e.getStackTrace()[0]);
            }
        }
    }

    void part(String name) {
        part = name;
    }

    void due(String what, Object got, Object want) {
        asked++;
        if (!Objects.equals(got, want)) {
            wrong++;
            System.out.println(part + ": " + what + " is " + got + ", due is " + want);
        }
    }

    /** The same for texts of many lines: it prints the first lines that are not the same. */
    void dueText(String what, String got, String want) {
        String[] found = got.split("\n");
        String[] lines = want.split("\n");
        int line = 0;
        while (line < found.length - 1 && line < lines.length - 1 && found[line].equals(lines[line])) {
            line++;
        }
        if (got.equals(want) || found[line].equals(lines[line])) {
            due(what + ": how many lines", found.length, lines.length);
        } else {
            due(what, found[line], lines[line]);
        }
    }

    void throwing(String what, Class<? extends RuntimeException> want, Runnable call) {
        Class<?> got = null;
        try {
            call.run();
        } catch (RuntimeException e) {
            got = e.getClass();
        }
        due(what + " throws", got, want);
    }

    int wrong() {
        return wrong;
    }

    void end() {
        System.out.println(asked + " answers looked at, " + wrong + " not as due");
        if (wrong != 0) {
            System.exit(1);
        }
    }
}
