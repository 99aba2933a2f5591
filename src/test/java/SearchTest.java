/** Promises 46 to 51: searches and predictions. */
public final class SearchTest {
    private static final int NONE = WishMarket.NONE;

    public static void main(String[] args) {
        cheapest();
        bestGrants();
        bestOffers();
        predictions();
        fading();
        wrongDays();
        Checks.end();
    }

    private static void cheapest() {
        WishMarket x = Checks.market("market 9;stall 8 0 0 0;stall 8 0 50 100;person a 20 0 0;person b 5 0 0;"
                + "person c 0 0 0;wish a 30 0 at 0;wish b 20 0 at 0;wish c 6 0 at 1;wish d 20 0 at 0;wish e 1 0 with 0;"
                + "wish f 12 0 at 1");
        Checks.due(x.cheapestWish(0), 1);
        Checks.due(x.cheapestWish(1), NONE);
        Checks.due(x.cheapestWish(2), NONE);
        // The shopping limit does not count here.
        x.setLimit(0, 1);
        Checks.due(x.cheapestWish(0), 1);
        x.setMargin(1, 0);
        Checks.due(x.cheapestWish(0), 2);
        Checks.due(x.cheapestWish(1), NONE);
        x.advance(9);
        Checks.due(x.cheapestWish(1), 2);
        WishMarket owner = Checks.market("market 9;stall 8 0 0 0;person a 20 0 0;wish a 9 0 with 0;wish b 9 0 with 0;"
                + "wish c 9 0 with 0;wish d 9 0 with 0;wish e 9 0 at 0;wish f 9 0 at 0");
        Checks.due(owner.cheapestWish(0), NONE);
        owner.grant(1);
        Checks.due(owner.cheapestWish(0), 4);
    }

    private static void bestGrants() {
        WishMarket x = Checks.market("market 9;stall 8 0 0 0;person a 20 0 5;person b 0 1 9;wish a 9 0 with 0;"
                + "wish b 40 6 with 0;wish c 20 0 with 0 worn 5;wish d 10 5 with 0;wish e 50 0 with 1;"
                + "wish f 60 0 at 0");
        Checks.due(x.bestGrant(0), 2);
        Checks.due(x.bestGrant(1), NONE);
        x.grant(2);
        Checks.due(x.bestGrant(0), 3);
        x.grant(3);
        Checks.due(x.bestGrant(0), 0);
        x.grant(0);
        Checks.due(x.bestGrant(0), NONE);
        x.advance(1);
        Checks.due(x.bestGrant(0), NONE);
        Checks.due(x.bestGrant(1), 4);
    }

    private static void bestOffers() {
        WishMarket x = Checks.market("market 9;stall 8 9 30 0;stall 8 99 10 0;stall 1 99 50 0;stall 8 99 10 0;"
                + "stall 8 5 10 0;person a 20 0 0;wish a 9 0 with 0;wish b 20 0 with 0;wish c 1 0 at 2;"
                + "wish d 99 0 with 0 worn 1;wish e 1 0 with 0 worn 9");
        Checks.due(x.bestOffer(0), 0);
        Checks.due(x.bestOffer(1), 1);
        Checks.due(x.bestOffer(2), NONE);
        Checks.due(x.bestOffer(3), 1);
        // Every stall offers nothing, and nothing is enough.
        Checks.due(x.bestOffer(4), 0);
        x.sell(3, 1);
        Checks.due(x.bestOffer(1), 1);
        Checks.due(x.sell(1, 3), 12);
        Checks.due(x.bestOffer(3), NONE);
    }

    private static void predictions() {
        String text = "market 5;stall 4 50 9 20;stall 2 30 0 50;person a 80 2 0 party bargain;person b 60 4 1 bargain;"
                + "wish a 30 1 at 0;wish b 22 0 at 1;wish c 50 0 with 1 worn 3;wish d 12 3 at 0 worn 8;limit 0 25;"
                + "limit 1 40;auction 3;tax 1 10";
        for (int days = 0; days <= 300; days += days < 30 ? 1 : 27) {
            WishMarket x = Checks.market(text);
            WishMarket y = Checks.market(text);
            int[] coins = {x.coinsAfter(0, days), x.coinsAfter(1, days)};
            int[] values = {x.valueAfter(0, days), x.valueAfter(1, days), x.valueAfter(2, days), x.valueAfter(3, days)};
            // A prediction changes nothing.
            Checks.due(x.day(), 0);
            Checks.due(x.coins(0), 80);
            Checks.due(x.undoCount(), 0);
            if (days > 0) {
                y.advance(days);
            }
            for (int p = 0; p < 2; p++) {
                Checks.due(coins[p], y.coins(p));
            }
            for (int w = 0; w < 4; w++) {
                Checks.due(values[w], y.value(w));
            }
        }
        WishMarket x = Checks.market("market 5;stall 4 50 0 0;person a 80 2 0;wish a 50 0 at 0;wish b 50 0 with 0;"
                + "tax 1 10");
        Checks.due(x.coinsAfter(0, 0), 80);
        Checks.due(x.coinsAfter(0, 1), 80);
        Checks.due(x.coinsAfter(0, 2), 72);
        Checks.due(x.coinsAfter(0, 7), 65);
        Checks.due(x.valueAfter(0, 4), 50);
        Checks.due(x.valueAfter(0, 5), 45);
        Checks.due(x.valueAfter(1, 49), 5);
        Checks.due(x.valueAfter(1, 50), 0);
        Checks.due(x.valueAfter(1, 300), 0);
    }

    private static void fading() {
        WishMarket x = Checks.market("market 5;stall 4 50 0 0;person a 80 2 0;wish a 50 0 at 0;"
                + "wish b 50 0 with 0 worn 9;wish c 9 0 with 0 worn 4;advance 2");
        Checks.due(x.daysUntilFaded(0), 48);
        Checks.due(x.daysUntilFaded(1), 3);
        Checks.due(x.daysUntilFaded(2), 28);
        x.advance(2);
        Checks.due(x.daysUntilFaded(1), 1);
        x.advance(1);
        Checks.due(x.daysUntilFaded(1), 0);
        Checks.due(x.daysUntilFaded(0), 45);
        x.advance(2);
        Checks.due(x.grant(2), 4);
        Checks.due(x.daysUntilFaded(2), NONE);
        x.advance(42);
        Checks.due(x.daysUntilFaded(0), 1);
        x.advance(1);
        Checks.due(x.daysUntilFaded(0), 0);
        Checks.due(x.fadedCount(), 2);
    }

    private static void wrongDays() {
        WishMarket x = Checks.market("market 5;stall 4 50 0 0;person a 80 2 0;wish a 50 0 at 0");
        for (int wrong : new int[] {-1, 301, Integer.MIN_VALUE, Integer.MAX_VALUE}) {
            Checks.thrown(Checks.ARGUMENT, () -> x.coinsAfter(0, wrong));
            Checks.thrown(Checks.ARGUMENT, () -> x.valueAfter(0, wrong));
            Checks.thrown(Checks.INDEX, () -> x.coinsAfter(1, wrong));
            Checks.thrown(Checks.INDEX, () -> x.valueAfter(1, wrong));
            Checks.thrown(Checks.INDEX, () -> x.coinsAfter(wrong, 1));
            Checks.thrown(Checks.INDEX, () -> x.valueAfter(wrong, 1));
        }
    }
}
