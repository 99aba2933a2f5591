/** Promises 24 to 28: what a stall tells. */
public final class StallTest {
    private static final String FIVE = "market 9;stall 1 10 0 100;stall 2 20 50 0;stall 3 30 1 7;stall 4 40 2 8;"
            + "stall 8 999 49 9;person a 500 0 9";

    public static void main(String[] args) {
        five();
        changing();
        indices();
        Checks.end();
    }

    private static void five() {
        WishMarket x = Checks.market(FIVE);
        int[] cash = {10, 20, 30, 40, 999};
        int[] stars = {0, 50, 1, 2, 49};
        int[] margins = {100, 0, 7, 8, 9};
        Checks.due(x.stallCount(), 5);
        for (int s = 0; s < 5; s++) {
            Checks.due(x.cash(s), cash[s]);
            Checks.due(x.stars(s), stars[s]);
            Checks.due(x.margin(s), margins[s]);
            Checks.due(x.stockCount(s), 0);
        }
        Checks.due(Checks.market("market 9;stall 8 99 0 0;person a 1 0 9").stallCount(), 1);
    }

    private static void changing() {
        WishMarket x = Checks.market(FIVE + ";wish v 10 0 at 1;wish w 10 0 at 1;wish u 10 0 at 4;wish t 10 0 with 0");
        Checks.due(x.stockCount(0), 0);
        Checks.due(x.stockCount(1), 2);
        Checks.due(x.stockCount(4), 1);
        Checks.due(x.buy(0, 0), 10);
        // Fifty stars are the most.
        Checks.due(x.stars(1), 50);
        Checks.due(x.cash(1), 30);
        Checks.due(x.stockCount(1), 1);
        x.buy(0, 2);
        Checks.due(x.stars(4), 50);
        Checks.due(x.stockCount(4), 0);
        Checks.due(x.sell(0, 2), 5);
        Checks.due(x.cash(2), 25);
        Checks.due(x.stars(2), 1);
        Checks.due(x.stockCount(2), 1);
        x.buy(0, 0);
        x.returnWish(0);
        Checks.due(x.stars(2), 0);
        x.setMargin(3, 100);
        Checks.due(x.margin(3), 100);
        Checks.due(x.imbalance(), 0);
    }

    private static void indices() {
        WishMarket one = Checks.market("market 9;stall 8 99 0 0;person a 1 0 9;wish w 1 0 with 0");
        WishMarket five = Checks.market(FIVE + ";wish w 1 0 with 0");
        for (int wrong : new int[] {-1, 1, 5, Integer.MIN_VALUE, Integer.MAX_VALUE}) {
            WishMarket x = wrong == 5 ? five : one;
            Checks.thrown(Checks.INDEX, () -> x.cash(wrong));
            Checks.thrown(Checks.INDEX, () -> x.stars(wrong));
            Checks.thrown(Checks.INDEX, () -> x.margin(wrong));
            Checks.thrown(Checks.INDEX, () -> x.stockCount(wrong));
            Checks.thrown(Checks.INDEX, () -> x.offer(0, wrong));
            Checks.thrown(Checks.INDEX, () -> x.sellObstacle(0, wrong));
            Checks.thrown(Checks.INDEX, () -> x.writeStall(wrong));
        }
    }
}
