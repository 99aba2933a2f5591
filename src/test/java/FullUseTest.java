/** "An object is used for at most 512 calls after it has been made": the last one answers as the first one would. */
public final class FullUseTest {
    private static final int CALLS = 512;
    private static final String SMALL = "market 7;stall 8 99 0 0;person a 99 0 0;wish w 9 0 at 0";
    /** Six persons, five stalls and sixteen wishes, and something to do in every phase of a day. */
    private static final String LARGE = "market 60;repeat 5(stall 8 999 50 9)" + persons() + " bargain" + wishes()
            + ";auction 1;tax 2 9;limit 0 99";

    private static int used;

    public static void main(String[] args) {
        Checks.sentence("An object is used for at most 512 calls after it has been made");
        days();
        predictions();
        setups();
        fullBuffers();
        changes();
        refusedCalls();
        Checks.end();
    }

    private static String persons() {
        StringBuilder text = new StringBuilder();
        for (char name = 'a'; name <= 'f'; name++) {
            text.append(";person ").append(name).append(" 999 5 9 party");
        }
        return text.toString();
    }

    private static String wishes() {
        StringBuilder text = new StringBuilder();
        for (int i = 0; i < 16; i++) {
            text.append(";wish ").append((char) ('a' + i)).append(" 99 0 at ").append(i % 5);
        }
        return text.toString();
    }

    private static WishMarket loaded(String text) {
        WishMarket x = new WishMarket();
        used = 0;
        load(x, text);
        return x;
    }

    private static void load(WishMarket x, String text) {
        Checks.load(x, text);
        used += (text.length() + 19) / 20 + 1;
    }

    private static void days() {
        for (String text : new String[] {SMALL, LARGE}) {
            WishMarket x = loaded(text);
            int days = 0;
            for (; used < CALLS - 4; used++) {
                x.advance(300);
                days += 300;
            }
            int year = text.equals(SMALL) ? 7 : 60;
            int birthday = text.equals(SMALL) ? 0 : 5;
            Checks.due(x.candles(0), (days + year - 1 - birthday) / year + (text.equals(SMALL) ? 0 : 9));
            Checks.due(x.imbalance(), 0);
            Checks.due(x.undo(), 7);
            Checks.due(x.day(), days - 300);
        }
    }

    private static void predictions() {
        WishMarket x = loaded(LARGE);
        int coins = x.coinsAfter(5, 300);
        int value = x.valueAfter(15, 300);
        for (used += 2; used < CALLS; used += 2) {
            Checks.due(x.coinsAfter(5, 300), coins);
            if (used < CALLS - 1) {
                Checks.due(x.valueAfter(15, 300), value);
            }
        }
    }

    private static void setups() {
        WishMarket x = new WishMarket();
        used = 0;
        for (int days = 1; used < CALLS - 8; days++) {
            load(x, SMALL + ";advance " + days);
            Checks.due(x.day(), days);
            used++;
        }
        Checks.due(x.imbalance(), 0);
        Checks.due(x.undoCount(), 0);
    }

    /** A full buffer, one append too many, and an error at its very end. */
    private static void fullBuffers() {
        WishMarket x = new WishMarket();
        String text = SMALL + " ".repeat(499 - SMALL.length()) + "?";
        for (used = 0; used < CALLS - 30; used += 30) {
            Checks.append(x, text);
            Checks.due(x.append(0, 0, 0, 0, 0), WishMarket.NONE);
            Checks.thrown(Checks.ARGUMENT, () -> x.parseSetup(500));
            Checks.due(x.parseErrorPosition(), 499);
            Checks.due(x.bufferLength(), 0);
        }
        Checks.append(x, SMALL);
        Checks.due(x.parseSetup(SMALL.length()), 1);
    }

    private static void changes() {
        WishMarket x = loaded(SMALL);
        int undoable = 0;
        int changes = 0;
        for (; used < CALLS - 9; used++) {
            // Nine steps forth and five back, over and over.
            if (changes % 14 < 9) {
                x.setLimit(0, changes % 200);
                undoable = Math.min(undoable + 1, 8);
            } else {
                undoable--;
                Checks.due(x.undo(), undoable);
            }
            changes++;
        }
        for (; undoable > 0; undoable--) {
            Checks.due(x.undo(), undoable - 1);
        }
        Checks.thrown(Checks.STATE, () -> x.undo());
    }

    private static void refusedCalls() {
        WishMarket x = loaded(SMALL);
        for (; used < CALLS - 8; used += 7) {
            Checks.thrown(Checks.ARGUMENT, () -> x.sell(0, 0));
            Checks.thrown(Checks.ARGUMENT, () -> x.advance(301));
            Checks.thrown(Checks.INDEX, () -> x.coins(1));
            Checks.thrown(Checks.INDEX, () -> x.outputByte(0));
            Checks.thrown(Checks.INDEX, () -> x.parseSetup(1));
            Checks.thrown(Checks.STATE, () -> x.restoreState(0));
            Checks.thrown(Checks.STATE, () -> x.undo());
        }
        Checks.due(x.buy(0, 0), 4);
    }
}
