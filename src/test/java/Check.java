/** Counts the answers that are not as due, and ends a test's program by them. */
final class Check {
    private String about = "";
    private int wrong;

    /** What is checked from here on is for these words of the document, under this promise. */
    void about(String promise, String sentence) {
        about = promise + ", \"" + sentence + "\": ";
    }

    void same(String call, long got, long due) {
        if (got != due) {
            tell(call, String.valueOf(got), String.valueOf(due));
        }
    }

    void number(String call, double got, double due) {
        if (Double.compare(got, due) != 0) {
            tell(call, String.valueOf(got), String.valueOf(due));
        }
    }

    void text(String call, String got, String due) {
        if (!got.equals(due)) {
            tell(call, got, due);
        }
    }

    void yes(String call, boolean got) {
        if (!got) {
            tell(call, "false", "true");
        }
    }

    void no(String call, boolean got) {
        if (got) {
            tell(call, "true", "false");
        }
    }

    private void tell(String call, String got, String due) {
        wrong++;
        System.out.println(about + call + " answered " + got + ", due is " + due);
    }

    void end() {
        if (wrong > 0) {
            System.out.println(wrong + " answers are not as due");
            System.exit(1);
        }
    }
}
