/** Promises 7 to 14: calendar and accounts. */
public final class CalendarTest {
    public static void main(String[] args) {
        calendar();
        counts();
        firstWish();
        averages();
        Checks.end();
    }

    private static void calendar() {
        WishMarket x = Checks.market("market 4;stall 1 0 0 0;person a 0 0 0");
        for (int day = 0; day < 9; day++) {
            Checks.due(x.day(), day);
            Checks.due(x.dayOfYear(), day % 4);
            Checks.due(x.yearLength(), 4);
            x.advance(1);
        }
        x = Checks.market("market 60;stall 1 0 0 0;person a 0 0 0;advance 61");
        Checks.due(x.yearLength(), 60);
        Checks.due(x.day(), 61);
        Checks.due(x.dayOfYear(), 1);
    }

    private static void counts() {
        WishMarket x = Checks.market("market 4;stall 4 0 0 0;person a 0 0 0;person b 0 1 0 party;wish p 9 0 with 0;"
                + "wish q 9 0 with 0;wish r 9 0 with 1;wish s 9 0 at 0 worn 9;wish t 9 0 with 0 worn 8;"
                + "wish u 9 0 at 0");
        Checks.due(x.grantedCount(), 0);
        Checks.due(x.fadedCount(), 0);
        x.grant(1);
        Checks.due(x.grantedCount(), 1);
        x.advance(2);
        Checks.due(x.grantedCount(), 2);
        Checks.due(x.fadedCount(), 0);
        x.advance(2);
        Checks.due(x.fadedCount(), 1);
        x.advance(4);
        Checks.due(x.fadedCount(), 2);
        x.advance(40);
        Checks.due(x.grantedCount(), 2);
        Checks.due(x.fadedCount(), 4);
        Checks.due(x.imbalance(), 0);
        Checks.due(x.undo(), 4);
        Checks.due(x.fadedCount(), 2);
    }

    private static void firstWish() {
        WishMarket x = Checks.market("market 4;stall 4 0 0 0;person a 0 0 0;wish p 9 0 with 0;wish q 9 0 with 0");
        x.grant(0);
        Checks.due(x.grantedCount(), 1);
        Checks.due(x.fadedCount(), 0);
        x.grant(1);
        Checks.due(x.grantedCount(), 2);
        x = Checks.market("market 4;stall 4 0 0 0;person a 0 0 0;wish p 9 0 with 0 worn 9;wish q 9 0 with 0;advance 4");
        Checks.due(x.fadedCount(), 1);
        Checks.due(x.grantedCount(), 0);
    }

    private static void averages() {
        WishMarket x = Checks.market("market 4;stall 4 0 50 0;stall 1 0 1 0;stall 1 0 1 0;person a 0 0 0;"
                + "wish p 9 0 with 0 worn 9;wish q 9 0 at 0 worn 1;wish r 9 0 at 0");
        Checks.due(x.averageWear(), 10.0 / 3.0);
        Checks.due(x.averageStars(), 52.0f / 3.0f);
        x.advance(4);
        // The faded wish does not count any more.
        Checks.due(x.averageWear(), 1.5);
        x.advance(36);
        Checks.due(x.averageWear(), 0.0);
        Checks.due(x.fadedCount(), 3);
        x = Checks.market("market 4;stall 4 0 7 0;person a 0 0 0");
        Checks.due(x.averageWear(), 0.0);
        Checks.due(x.averageStars(), 7.0f);
        x = Checks.market("market 4;stall 4 0 0 0;person a 0 0 0;wish p 9 0 with 0 worn 5;wish q 9 0 with 0 worn 2");
        Checks.due(x.averageStars(), 0.0f);
        x.grant(0);
        Checks.due(x.averageWear(), 2.0);
    }
}
