/** Texts of setups with as many persons, stalls and wishes as a test wants. */
final class Setups {
    private Setups() {
    }

    static String stalls(int count) {
        return ";stall 8 99 0 0".repeat(count);
    }

    static String persons(int count) {
        StringBuilder text = new StringBuilder();
        for (int i = 0; i < count; i++) {
            text.append(";person p").append((char) ('a' + i)).append(" 9 0 0");
        }
        return text.toString();
    }

    /** Eight wishes in each stall. */
    static String wishes(int count) {
        StringBuilder text = new StringBuilder();
        for (int i = 0; i < count; i++) {
            text.append(";wish w").append((char) ('a' + i)).append(" 9 0 at ").append(i / 8);
        }
        return text.toString();
    }
}
