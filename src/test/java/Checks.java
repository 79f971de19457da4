/** Counts the checks of all tests and prints those that fail. */
final class Checks {
    private int passed = 0;
    private int failed = 0;
    private String topic = "";

    void topic(String name) {
        topic = name;
    }

    /** One answer: what the call gave, and what is due. */
    void due(String call, long got, long want) {
        if (got == want) {
            passed++;
        } else {
            failed++;
            System.out.println(topic + ": " + call + " answered " + got + ", due is " + want);
        }
    }

    void holds(String what, boolean truth) {
        due(what, truth ? 1 : 0, 1);
    }

    int passed() {
        return passed;
    }

    int failed() {
        return failed;
    }
}
