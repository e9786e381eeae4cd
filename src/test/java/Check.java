/** Counts the answers of one test that are not the ones that are due. */
final class Check {
    private final String name;
    private String sentence = "";
    private int calls;
    private int callsOfSentence = 1;
    private int wrong;

    Check(String name) {
        this.name = name;
    }

    /** What follows tests this sentence; faults are told with it. */
    void about(String next) {
        if (callsOfSentence == 0) {
            fault("nothing was tested");
        }
        sentence = ", '" + next + "'";
        callsOfSentence = 0;
    }

    void due(String call, long got, long want) {
        counted();
        if (got != want) {
            fault(call + " answered " + got + ", due is " + want);
        }
    }

    void same(String call, String got, String want) {
        counted();
        if (!got.equals(want)) {
            fault(call + " answered " + got + ", due is " + want);
        }
    }

    void yes(String call, boolean got) {
        due(call, got ? 1 : 0, 1);
    }

    void no(String call, boolean got) {
        due(call, got ? 1 : 0, 0);
    }

    void none(String call, long got) {
        due(call, got, -1);
    }

    void fault(String text) {
        wrong++;
        if (wrong <= 20) {
            System.out.println(name + sentence + ": " + text);
        }
    }

    void end() {
        if (calls == 0 || callsOfSentence == 0) {
            fault("nothing was tested");
        }
        if (wrong != 0) {
            System.out.println(name + ": " + wrong + " of " + calls + " answers are not as due");
            System.exit(1);
        }
    }

    private void counted() {
        calls++;
        callsOfSentence++;
    }
}
