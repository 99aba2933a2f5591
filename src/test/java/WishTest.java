/** Promises 29 to 38: what a wish tells. */
public final class WishTest {
    private static final String H = "market 9;stall 8 99 0 0;stall 2 50 10 20;person a 99 0 9;person b 50 1 2;"
            + "wish v 99 99 at 1;wish wxyzab 1 0 with 1 worn 9;wish u 37 5 with 0 worn 3";

    public static void main(String[] args) {
        created();
        letters();
        bought();
        leaving();
        values();
        indices();
        Checks.end();
    }

    private static void created() {
        WishMarket x = Checks.market(H);
        int[][] due = {{99, 99, 0, WishMarket.NONE, 1}, {1, 0, 9, 1, WishMarket.NONE}, {37, 5, 3, 0, WishMarket.NONE}};
        for (int w = 0; w < 3; w++) {
            Checks.due(x.baseValue(w), due[w][0]);
            Checks.due(x.strength(w), due[w][1]);
            Checks.due(x.wear(w), due[w][2]);
            Checks.due(x.owner(w), due[w][3]);
            Checks.due(x.stallOf(w), due[w][4]);
            Checks.due(x.isGranted(w), false);
            Checks.due(x.purchaseDay(w), WishMarket.NONE);
            Checks.due(x.purchasePrice(w), WishMarket.NONE);
        }
    }

    private static void letters() {
        WishMarket x = Checks.market(H);
        Checks.due(Checks.wishName(x, 0), "v");
        Checks.due(Checks.wishName(x, 1), "wxyzab");
        Checks.due(x.wishLetter(1, 5), (int) 'b');
        for (int index : new int[] {-1, 6, 7, 12, 13, Integer.MIN_VALUE, Integer.MAX_VALUE}) {
            Checks.due(x.wishLetter(1, index), WishMarket.NONE);
        }
        Checks.due(x.wishLetter(0, 1), WishMarket.NONE);
    }

    private static void bought() {
        WishMarket x = Checks.market(H + ";sell 2 1;advance 4");
        Checks.due(x.buy(1, 2), 18);
        Checks.due(x.purchaseDay(2), 4);
        Checks.due(x.purchasePrice(2), 18);
        Checks.due(x.owner(2), 1);
        Checks.due(x.stallOf(2), WishMarket.NONE);
        x.advance(7);
        Checks.due(x.purchaseDay(2), 4);
        Checks.due(x.purchasePrice(2), 18);
        x.sell(2, 0);
        Checks.due(x.purchaseDay(2), WishMarket.NONE);
        Checks.due(x.purchasePrice(2), WishMarket.NONE);
        Checks.due(x.owner(2), WishMarket.NONE);
        Checks.due(x.stallOf(2), 0);
        x.buy(1, 2);
        x.returnWish(2);
        Checks.due(x.purchaseDay(2), WishMarket.NONE);
        Checks.due(x.purchasePrice(2), WishMarket.NONE);
        Checks.due(x.stallOf(2), 0);
    }

    private static void leaving() {
        WishMarket x = Checks.market(H + ";sell 2 1;buy 0 2;sell 1 0;buy 1 1");
        Checks.due(x.purchaseDay(2), 0);
        x.grant(2);
        Checks.due(x.isGranted(2), true);
        Checks.due(x.owner(2), WishMarket.NONE);
        Checks.due(x.stallOf(2), WishMarket.NONE);
        Checks.due(x.purchaseDay(2), WishMarket.NONE);
        Checks.due(x.purchasePrice(2), WishMarket.NONE);
        Checks.due(x.value(2), 25);
        x.advance(9);
        // A granted wish stays as it is; a faded one is nobody's.
        Checks.due(x.wear(2), 3);
        Checks.due(x.value(2), 25);
        Checks.due(x.wear(1), 10);
        Checks.due(x.value(1), 0);
        Checks.due(x.isGranted(1), false);
        Checks.due(x.owner(1), WishMarket.NONE);
        Checks.due(x.stallOf(1), WishMarket.NONE);
        Checks.due(x.purchaseDay(1), WishMarket.NONE);
        Checks.due(x.purchasePrice(1), WishMarket.NONE);
        x.advance(18);
        Checks.due(x.wear(1), 10);
        Checks.due(x.wear(0), 3);
    }

    private static void values() {
        WishMarket x = Checks.market("market 4;stall 8 0 0 0;person a 0 0 0;wish v 99 0 at 0;wish w 1 0 at 0;"
                + "wish u 15 0 with 0");
        for (int wear = 0; wear <= 10; wear++) {
            Checks.due(x.wear(0), wear);
            Checks.due(x.value(0), 99 * (10 - wear) / 10);
            Checks.due(x.value(1), wear == 0 ? 1 : 0);
            Checks.due(x.value(2), 15 * (10 - wear) / 10);
            Checks.due(x.stallOf(0), wear == 10 ? WishMarket.NONE : 0);
            x.advance(4);
        }
        Checks.due(x.wear(0), 10);
    }

    private static void indices() {
        WishMarket one = Checks.market("market 9;stall 8 99 0 0;person a 1 0 9;wish v 1 0 at 0");
        WishMarket none = Checks.market("market 9;stall 8 99 0 0;person a 1 0 9");
        for (int wrong : new int[] {-1, 0, 1, 16, Integer.MIN_VALUE, Integer.MAX_VALUE}) {
            WishMarket x = wrong == 0 ? none : one;
            Checks.thrown(Checks.INDEX, () -> x.wishLetter(wrong, 0));
            Checks.thrown(Checks.INDEX, () -> x.wishLetter(wrong, -1));
            Checks.thrown(Checks.INDEX, () -> x.baseValue(wrong));
            Checks.thrown(Checks.INDEX, () -> x.strength(wrong));
            Checks.thrown(Checks.INDEX, () -> x.wear(wrong));
            Checks.thrown(Checks.INDEX, () -> x.value(wrong));
            Checks.thrown(Checks.INDEX, () -> x.owner(wrong));
            Checks.thrown(Checks.INDEX, () -> x.stallOf(wrong));
            Checks.thrown(Checks.INDEX, () -> x.isGranted(wrong));
            Checks.thrown(Checks.INDEX, () -> x.purchaseDay(wrong));
            Checks.thrown(Checks.INDEX, () -> x.purchasePrice(wrong));
            Checks.thrown(Checks.INDEX, () -> x.price(wrong));
            Checks.thrown(Checks.INDEX, () -> x.offer(wrong, 0));
            Checks.thrown(Checks.INDEX, () -> x.refund(wrong));
            Checks.thrown(Checks.INDEX, () -> x.buyObstacle(0, wrong));
            Checks.thrown(Checks.INDEX, () -> x.sellObstacle(wrong, 0));
            Checks.thrown(Checks.INDEX, () -> x.returnObstacle(wrong));
            Checks.thrown(Checks.INDEX, () -> x.grantObstacle(wrong));
            Checks.thrown(Checks.INDEX, () -> x.bestOffer(wrong));
            Checks.thrown(Checks.INDEX, () -> x.daysUntilFaded(wrong));
        }
        Checks.thrown(Checks.INDEX, () -> one.buyObstacle(1, 0));
        Checks.thrown(Checks.INDEX, () -> one.buyObstacle(-1, 0));
    }
}
