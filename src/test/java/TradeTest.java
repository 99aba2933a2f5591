/** Promises 39 to 45 and 56 to 59: prices, obstacles, and the trades themselves. */
public final class TradeTest {
    private static final int NONE = WishMarket.NONE;

    public static void main(String[] args) {
        prices();
        offers();
        refunds();
        buying();
        selling();
        returning();
        granting();
        wrongCalls();
        Checks.end();
    }

    private static void prices() {
        WishMarket x = Checks.market("market 9;stall 8 0 0 0;stall 8 0 50 100;stall 8 0 33 17;person a 0 0 0;"
                + "wish a 99 0 at 0;wish b 1 0 at 0;wish c 99 0 at 1;wish d 99 0 at 2 worn 4;wish e 2 0 at 0 worn 9;"
                + "wish f 3 0 with 0;wish g 1 0 at 1 worn 9");
        Checks.due(x.price(0), 49);
        // A result of 0 makes a price of 1.
        Checks.due(x.price(1), 1);
        Checks.due(x.price(2), 198);
        Checks.due(x.price(3), 57);
        Checks.due(x.price(4), 1);
        Checks.due(x.price(5), NONE);
        Checks.due(x.price(6), 1);
        x.setMargin(0, 100);
        Checks.due(x.price(0), 99);
        x.advance(9);
        Checks.due(x.price(0), 89);
        Checks.due(x.price(4), NONE);
        x.grant(5);
        Checks.due(x.price(5), NONE);
        // 999999 / 100000
        x = Checks.market("market 9;stall 8 0 41 11;person a 0 0 0;wish a 11 0 at 0 worn 1");
        Checks.due(x.price(0), 9);
    }

    private static void offers() {
        WishMarket x = Checks.market("market 9;stall 8 0 0 0;stall 8 0 50 100;stall 8 0 33 17;person a 99 0 0;"
                + "wish a 99 0 with 0;wish b 1 0 with 0;wish c 77 0 with 0 worn 4;wish d 10 0 at 0");
        int[][] due = {{49, 99, 82}, {0, 1, 0}, {23, 46, 38}, {NONE, NONE, NONE}};
        for (int w = 0; w < 4; w++) {
            for (int s = 0; s < 3; s++) {
                Checks.due(x.offer(w, s), due[w][s]);
            }
        }
        Checks.due(x.buy(0, 3), 5);
        Checks.due(x.offer(3, 0), 5);
        x.grant(3);
        Checks.due(x.offer(3, 0), NONE);
        // 31968 / 1000
        x = Checks.market("market 9;stall 8 0 46 0;person a 99 0 0;wish a 37 0 with 0 worn 1");
        Checks.due(x.offer(0, 0), 31);
    }

    private static void refunds() {
        String h = "market 9;stall 8 0 50 0;person a 999 0 0;wish a 99 0 at 0;wish b 15 0 with 0;wish c 1 0 at 0";
        WishMarket x = Checks.market(h);
        Checks.due(x.refund(0), NONE);
        Checks.due(x.refund(1), NONE);
        x.buy(0, 0);
        x.buy(0, 2);
        Checks.due(x.refund(0), 89);
        Checks.due(x.refund(2), 0);
        // The refund follows the purchase price, not the wear, and outlives the regret days.
        x.advance(18);
        Checks.due(x.refund(0), 89);
        x.sell(0, 0);
        Checks.due(x.refund(0), NONE);
        x = Checks.market(h + ";fee 0;buy 0 0");
        Checks.due(x.refund(0), 99);
        x = Checks.market(h + ";fee 33;buy 0 0;buy 0 2");
        Checks.due(x.refund(0), 66);
        Checks.due(x.refund(2), 0);
        x.grant(0);
        Checks.due(x.refund(0), NONE);
    }

    private static void buying() {
        WishMarket x = Checks.market("market 9;stall 8 7 48 20;stall 8 0 0 0;person a 99 0 0;person b 12 0 0;"
                + "person c 0 0 0;wish a 10 0 at 0;wish b 10 0 at 0;wish c 10 0 at 0;wish d 10 0 with 0;"
                + "wish e 10 0 with 0;wish f 30 0 at 1;advance 5");
        Checks.due(x.buyObstacle(0, 3), 1);
        Checks.due(x.buyObstacle(2, 3), 1);
        Checks.due(x.buyObstacle(1, 5), 2);
        Checks.due(x.price(0), 11);
        Checks.due(x.buyObstacle(1, 0), 0);
        Checks.due(x.buyObstacle(2, 0), 2);
        Checks.due(x.buy(0, 1), 11);
        Checks.due(x.stars(0), 49);
        Checks.due(x.coins(0), 88);
        Checks.due(x.cash(0), 18);
        Checks.due(x.owner(1), 0);
        Checks.due(x.stallOf(1), NONE);
        Checks.due(x.purchaseDay(1), 5);
        Checks.due(x.purchasePrice(1), 11);
        Checks.due(x.buyObstacle(0, 1), 1);
        Checks.due(x.ownedCount(0), 3);
        // The price is now 11.88, rounded down; then the stars are at their greatest.
        Checks.due(x.buy(1, 0), 11);
        Checks.due(x.coins(1), 1);
        Checks.due(x.stars(0), 50);
        Checks.due(x.buyObstacle(1, 2), 2);
        Checks.due(x.buy(0, 2), 12);
        Checks.due(x.stars(0), 50);
        Checks.due(x.buyObstacle(0, 5), 3);
        Checks.thrown(Checks.ARGUMENT, () -> x.buy(0, 5));
        Checks.due(x.cash(0), 7 + 11 + 11 + 12);
        // All the coins may go.
        WishMarket y = Checks.market("market 9;stall 1 0 50 0;person a 9 0 0;wish a 9 0 at 0;wish b 9 0 with 0");
        Checks.due(y.buy(0, 0), 9);
        Checks.due(y.coins(0), 0);
        // Fewer coins are told before four wishes.
        WishMarket z = Checks.market("market 9;stall 1 0 50 0;person a 8 0 0;wish a 9 0 at 0;wish b 9 0 with 0;"
                + "wish c 9 0 with 0;wish d 9 0 with 0;wish e 9 0 with 0");
        Checks.due(z.buyObstacle(0, 0), 2);
        Checks.due(z.buyObstacle(0, 1), 1);
    }

    private static void selling() {
        WishMarket x = Checks.market("market 9;stall 1 4 0 0;stall 1 99 50 0;person a 3 0 0;wish a 9 0 with 0;"
                + "wish b 10 0 with 0;wish c 1 0 at 1");
        Checks.due(x.sellObstacle(2, 0), 1);
        Checks.due(x.sellObstacle(2, 1), 1);
        Checks.due(x.sellObstacle(1, 0), 3);
        Checks.due(x.sellObstacle(0, 1), 2);
        Checks.due(x.sellObstacle(0, 0), 0);
        // All the cash may go.
        Checks.due(x.sell(0, 0), 4);
        Checks.due(x.cash(0), 0);
        Checks.due(x.coins(0), 7);
        Checks.due(x.stars(0), 0);
        Checks.due(x.stallOf(0), 0);
        Checks.due(x.owner(0), NONE);
        // A full stall is told before too little cash.
        Checks.due(x.sellObstacle(1, 0), 2);
        Checks.due(x.buy(0, 2), 1);
        Checks.due(x.stars(1), 50);
        Checks.due(x.sell(1, 1), 10);
        Checks.due(x.stars(1), 50);
        Checks.due(x.imbalance(), 0);
    }

    private static void returning() {
        String h = "market 9;stall 1 0 7 100;stall 3 99 1 0;person a 99 0 0;person b 99 0 0;wish a 50 0 at 0;"
                + "wish b 20 0 at 1;wish c 10 0 with 0";
        WishMarket x = Checks.market(h);
        Checks.due(x.returnObstacle(0), 1);
        Checks.due(x.returnObstacle(2), 1);
        Checks.due(x.buy(0, 0), 57);
        Checks.due(x.stars(0), 8);
        x.advance(3);
        Checks.due(x.returnObstacle(0), 0);
        Checks.due(x.returnWish(0), 51);
        Checks.due(x.stars(0), 6);
        Checks.due(x.cash(0), 6);
        Checks.due(x.coins(0), 93);
        Checks.due(x.stallOf(0), 0);
        Checks.due(x.returnObstacle(0), 1);
        // The stars do not fall below 0, be they 1 or 2 before.
        Checks.due(x.buy(0, 1), 10);
        Checks.due(x.stars(1), 2);
        x.returnWish(1);
        Checks.due(x.stars(1), 0);
        x.buy(0, 1);
        Checks.due(x.stars(1), 1);
        x.returnWish(1);
        Checks.due(x.stars(1), 0);

        WishMarket late = Checks.market(h + ";buy 0 0;advance 4");
        Checks.due(late.returnObstacle(0), 2);
        WishMarket full = Checks.market(h + ";buy 0 0;sell 2 0");
        Checks.due(full.returnObstacle(0), 3);
        full.advance(4);
        Checks.due(full.returnObstacle(0), 2);
        // The stall of the purchase is looked at, not another one.
        WishMarket other = Checks.market(h + ";buy 0 1;buy 0 0");
        Checks.due(other.returnWish(1), 9);
        Checks.due(other.stallOf(1), 1);
        WishMarket poor = Checks.market("market 9;stall 3 0 50 0;person a 99 0 0;wish a 20 0 at 0;wish b 3 0 with 0;"
                + "buy 0 0;sell 1 0");
        Checks.due(poor.cash(0), 17);
        Checks.due(poor.refund(0), 18);
        Checks.due(poor.returnObstacle(0), 4);
        Checks.thrown(Checks.ARGUMENT, () -> poor.returnWish(0));
        WishMarket exact = Checks.market("market 9;stall 3 0 50 0;person a 99 0 0;wish a 20 0 at 0;wish b 2 0 with 0;"
                + "buy 0 0;sell 1 0");
        Checks.due(exact.returnWish(0), 18);
        Checks.due(exact.cash(0), 0);
        WishMarket fullAndPoor = Checks.market("market 9;stall 1 0 50 0;person a 99 0 0;wish a 20 0 at 0;"
                + "wish b 3 0 with 0;buy 0 0;sell 1 0");
        Checks.due(fullAndPoor.returnObstacle(0), 3);
        // A granted wish is nobody's.
        WishMarket granted = Checks.market(h + ";buy 0 0;grant 0");
        Checks.due(granted.returnObstacle(0), 1);
    }

    private static void granting() {
        WishMarket x = Checks.market("market 9;stall 3 0 0 0;person a 0 2 5;wish a 20 5 with 0 worn 1;"
                + "wish b 20 6 with 0;wish c 20 0 at 0;wish d 7 0 with 0");
        Checks.due(x.grantObstacle(2), 1);
        Checks.due(x.grantObstacle(0), 2);
        Checks.due(x.grantObstacle(1), 2);
        x.advance(2);
        Checks.due(x.grantObstacle(0), 0);
        Checks.due(x.grantObstacle(1), 3);
        Checks.due(x.grant(0), 18);
        Checks.due(x.grantObstacle(0), 1);
        Checks.due(x.grant(3), 25);
        Checks.due(x.happiness(0), 25);
        Checks.due(x.candles(0), 5);
        Checks.thrown(Checks.ARGUMENT, () -> x.grant(1));
        Checks.thrown(Checks.ARGUMENT, () -> x.grant(0));
        x.advance(9);
        Checks.due(x.grantObstacle(1), 0);
        Checks.due(x.imbalance(), 0);
    }

    /** Of several exceptions the one that is listed first; nothing changes. */
    private static void wrongCalls() {
        WishMarket x = Checks.market("market 9;stall 1 0 0 0;person a 0 1 0;wish a 20 0 at 0");
        for (int wrong : new int[] {-1, 1, Integer.MIN_VALUE, Integer.MAX_VALUE}) {
            Checks.thrown(Checks.INDEX, () -> x.buy(wrong, 0));
            Checks.thrown(Checks.INDEX, () -> x.buy(0, wrong));
            Checks.thrown(Checks.INDEX, () -> x.sell(wrong, 0));
            Checks.thrown(Checks.INDEX, () -> x.sell(0, wrong));
            Checks.thrown(Checks.INDEX, () -> x.returnWish(wrong));
            Checks.thrown(Checks.INDEX, () -> x.grant(wrong));
        }
        Checks.thrown(Checks.ARGUMENT, () -> x.buy(0, 0));
        Checks.thrown(Checks.ARGUMENT, () -> x.sell(0, 0));
        Checks.thrown(Checks.ARGUMENT, () -> x.returnWish(0));
        Checks.thrown(Checks.ARGUMENT, () -> x.grant(0));
        Checks.due(x.undoCount(), 0);
        Checks.due(x.stallOf(0), 0);
        Checks.due(x.imbalance(), 0);
    }
}
