/** Counts the answers that are not the ones due, and prints each of them. */
final class Due {
    interface Call {
        long answer();
    }

    private final String test;
    private int wrong;

    Due(String test) {
        this.test = test;
    }

    void answer(String call, long got, long want) {
        if (got != want) {
            wrong++;
            System.out.println(test + ": " + call + " answered " + got + ", due is " + want);
        }
    }

    /** Two texts of lines, of which the first that differ are told. */
    void same(String what, String got, String want) {
        if (got.equals(want)) {
            return;
        }
        wrong++;
        String[] gotLines = got.split("\n");
        String[] wantLines = want.split("\n");
        int i = 0;
        while (i < gotLines.length && i < wantLines.length && gotLines[i].equals(wantLines[i])) {
            i++;
        }
        String gotLine = i < gotLines.length ? gotLines[i] : "nothing";
        String wantLine = i < wantLines.length ? wantLines[i] : "nothing";
        System.out.println(test + ": " + what + ": " + gotLine + ", due is " + wantLine);
    }

    void exception(String call, Class<? extends RuntimeException> want, Call made) {
        String got = "no exception";
        try {
            made.answer();
        } catch (RuntimeException e) {
            got = e.getClass().getName();
            checkThrownByHand(call, e);
        }
        if (!got.equals(want.getName())) {
            wrong++;
            System.out.println(test + ": " + call + " threw " + got + ", due is " + want.getName());
        }
    }

    // What the Java machine throws tells of an index, a null or "/ by zero" in words of its own.
    private void checkThrownByHand(String call, RuntimeException e) {
        String text = String.valueOf(e.getMessage());
        if (text.contains("out of bounds for length") || text.contains("because") || text.contains("by zero")) {
            wrong++;
            System.out.println(test + ": " + call + " let the machine throw: " + text);
        }
    }

    void end() {
        if (wrong != 0) {
            System.out.println(test + ": " + wrong + " answers are not as due");
            System.exit(1);
        }
        System.out.println(test + ": all answers are as due");
    }
}
