/** Promise 3 and section 6: what the items of a valid setup bring about, in their order. */
public final class SetupEffectTest {
    private static final String H = "market 9;stall 2 99 0 0;stall 1 80 10 50;person a 99 0 9;person b 0 3 0;"
            + "wish x 20 9 at 0;wish y 20 0 with 0;wish z 10 0 with 1";

    public static void main(String[] args) {
        counts();
        trades();
        renameSwapGift();
        settings();
        days();
        repeats();
        Checks.end();
    }

    private static void counts() {
        WishMarket x = new WishMarket();
        Checks.due(Checks.load(x, "market 9;stall 1 0 0 0;person a 0 0 0"), 0);
        Checks.due(Checks.load(x, H), 3);
        Checks.due(x.personCount(), 2);
        Checks.due(x.stallCount(), 2);
        Checks.due(x.day(), 0);
        // Without "regret", "fee", "limit", "auction" and "tax".
        Checks.due(x.shoppingLimit(0), 0);
        Checks.due(x.shoppingLimit(1), 0);
        Checks.due(x.wear(0), 0);
        Checks.due(x.purchaseDay(1), WishMarket.NONE);
        Checks.due(x.advance(27), 0);
        Checks.due(x.coins(0), 99);
        Checks.due(x.coins(1), 0);
        Checks.due(x.stallOf(0), 0);
    }

    private static void trades() {
        WishMarket x = Checks.market(H + ";advance 1;buy 0 0");
        Checks.due(x.owner(0), 0);
        Checks.due(x.purchaseDay(0), 1);
        Checks.due(x.purchasePrice(0), 10);
        Checks.due(x.refund(0), 9);
        Checks.due(x.coins(0), 89);
        Checks.due(x.cash(0), 109);
        Checks.due(x.stars(0), 1);
        Checks.due(x.undoCount(), 0);
        x = Checks.market(H + ";buy 0 0;return 0");
        Checks.due(x.stallOf(0), 0);
        Checks.due(x.stars(0), 0);
        Checks.due(x.coins(0), 98);
        Checks.due(x.purchaseDay(0), WishMarket.NONE);
        x = Checks.market(H + ";sell 1 1");
        Checks.due(x.stallOf(1), 1);
        Checks.due(x.coins(0), 111);
        Checks.due(x.cash(1), 68);
        Checks.due(x.stars(1), 10);
        x = Checks.market(H + ";grant 1");
        Checks.due(x.isGranted(1), true);
        Checks.due(x.happiness(0), 20);
        Checks.due(x.candles(0), 9);
        Checks.due(x.grantedCount(), 1);
        Checks.due(x.imbalance(), 0);
    }

    private static void renameSwapGift() {
        WishMarket x = Checks.market(H + ";rename 0 a;rename 1 abcdef;rename 2 z");
        Checks.due(Checks.wishName(x, 0), "a");
        Checks.due(Checks.wishName(x, 1), "abcdef");
        Checks.due(Checks.wishName(x, 2), "z");
        x = Checks.market(H + ";buy 0 0;swap 0 2");
        Checks.due(x.owner(0), 1);
        Checks.due(x.owner(2), 0);
        Checks.due(x.purchaseDay(0), WishMarket.NONE);
        Checks.due(x.purchasePrice(0), WishMarket.NONE);
        Checks.due(x.refund(0), WishMarket.NONE);
        Checks.due(x.returnObstacle(0), 1);
        Checks.due(x.stallOf(0), WishMarket.NONE);
        Checks.due(x.stallOf(2), WishMarket.NONE);
        Checks.due(x.stockCount(0), 0);
        x = Checks.market(H + ";buy 0 0;swap 2 0");
        Checks.due(x.owner(0), 1);
        Checks.due(x.purchaseDay(0), WishMarket.NONE);
        // Two wishes of one person stay with the person; the purchase is forgotten all the same.
        x = Checks.market(H + ";buy 0 0;swap 1 0");
        Checks.due(x.owner(0), 0);
        Checks.due(x.owner(1), 0);
        Checks.due(x.purchaseDay(0), WishMarket.NONE);
        x = Checks.market(H + ";buy 0 0;gift 0 1");
        Checks.due(x.owner(0), 1);
        Checks.due(x.purchaseDay(0), WishMarket.NONE);
        Checks.due(x.coins(0), 89);
        Checks.due(x.coins(1), 0);
        Checks.due(x.imbalance(), 0);
    }

    private static void settings() {
        WishMarket x = Checks.market(H + ";limit 0 30;limit 1 200;limit 0 7;sale 0 80;sale 0 5;sale 1 0");
        Checks.due(x.shoppingLimit(0), 7);
        Checks.due(x.shoppingLimit(1), 200);
        Checks.due(x.margin(0), 5);
        Checks.due(x.margin(1), 0);
        x = Checks.market(H + ";regret 5;regret 1;fee 50;fee 30;buy 0 0;advance 1");
        Checks.due(x.returnObstacle(0), 0);
        Checks.due(x.refund(0), 7);
        x.advance(1);
        Checks.due(x.returnObstacle(0), 2);
        x = Checks.market(H + ";regret 0;fee 0;buy 0 0");
        Checks.due(x.refund(0), 10);
        Checks.due(x.returnObstacle(0), 0);
        // The latest "auction" and the latest "tax" count.
        x = Checks.market(H + ";auction 0;auction 1;tax 0 50;tax 1 10");
        x.advance(1);
        Checks.due(x.owner(0), WishMarket.NONE);
        Checks.due(x.coins(0), 99);
        x.advance(1);
        Checks.due(x.owner(0), 0);
        Checks.due(x.coins(0), 79 - 7);
    }

    private static void days() {
        WishMarket x = Checks.market("market 9;advance 9;person a 50 0 0 party;wish g 9 1 with 0;tax 1 50;advance 2;"
                + "stall 1 0 0 0;advance 10;wish h 9 0 at 0");
        Checks.due(x.day(), 21);
        Checks.due(x.dayOfYear(), 3);
        Checks.due(x.candles(0), 2);
        Checks.due(x.isGranted(0), true);
        // The first tax day finds no stall yet.
        Checks.due(x.coins(0), 25);
        Checks.due(x.cash(0), 25);
        Checks.due(x.wear(0), 0);
        Checks.due(x.wear(1), 0);
        Checks.due(x.imbalance(), 0);
    }

    private static void repeats() {
        WishMarket x = Checks.market(H + ";repeat 3(advance 1;repeat 2(advance 10));advance 100");
        Checks.due(x.day(), 163);
        x = Checks.market(H + ";repeat 1(advance 1)");
        Checks.due(x.day(), 1);
        x = Checks.market(H + ";repeat 5(repeat 4(repeat 3(advance 1));advance 7)");
        Checks.due(x.day(), 95);
        x = Checks.market(H + ";repeat 2(repeat 2(advance 1);repeat 3(advance 10));repeat 2(advance 100)");
        Checks.due(x.day(), 264);
        x = Checks.market("market 9;person a 1 1 1;repeat 4(stall 3 100 0 9)");
        Checks.due(x.stallCount(), 4);
        Checks.due(x.cash(3), 100);
        Checks.due(x.imbalance(), 0);
    }
}
