/** Promise 55 and sections 4 and 5: the phases of a day, and the end of a year. */
public final class DayTest {
    private static final int NONE = WishMarket.NONE;

    public static void main(String[] args) {
        birthdays();
        shopping();
        shoppingOrder();
        bargaining();
        bargainingBounds();
        auctions();
        auctionBids();
        taxes();
        phasesInOrder();
        yearEnds();
        wrongDays();
        Checks.end();
    }

    private static void birthdays() {
        WishMarket x = Checks.market("market 4;stall 1 0 0 0;person a 0 0 4 party;person b 0 0 9;person c 0 1 0 party;"
                + "wish a 9 0 with 0;wish b 40 5 with 0;wish c 40 5 with 0;wish d 99 6 with 0;wish e 9 0 with 1;"
                + "wish f 9 2 with 2");
        Checks.due(x.advance(1), 1);
        // The new candle counts; of two equal values the smaller index; one wish a birthday.
        Checks.due(x.isGranted(1), true);
        Checks.due(x.isGranted(2), false);
        Checks.due(x.happiness(0), 40);
        Checks.due(x.candles(0), 5);
        Checks.due(x.candles(1), 10);
        Checks.due(x.candles(2), 0);
        Checks.due(x.isGranted(4), false);
        Checks.due(x.advance(3), 0);
        Checks.due(x.candles(2), 1);
        Checks.due(x.advance(2), 2);
        Checks.due(x.isGranted(3), true);
        Checks.due(x.happiness(0), 40 + 89);
        Checks.due(x.isGranted(5), true);
        Checks.due(x.happiness(2), 8);
        Checks.due(x.advance(300), 2);
        Checks.due(x.happiness(1), 0);
    }

    private static void shopping() {
        WishMarket x = Checks.market("market 60;stall 8 0 0 0;stall 8 0 50 0;person a 90 0 0;person b 90 0 0;"
                + "wish a 60 0 at 0;wish b 20 0 at 0;wish c 10 0 at 1;wish d 42 0 at 1;wish e 99 0 at 1;limit 0 42");
        x.advance(1);
        // Prices are 30, 10, 10, 42 and 99; of two equal ones the smaller index.
        Checks.due(x.owner(1), 0);
        Checks.due(x.purchasePrice(1), 10);
        Checks.due(x.stars(0), 1);
        Checks.due(x.ownedCount(0), 1);
        Checks.due(x.ownedCount(1), 0);
        x.advance(1);
        Checks.due(x.owner(2), 0);
        Checks.due(x.purchaseDay(2), 1);
        x.advance(1);
        Checks.due(x.owner(0), 0);
        Checks.due(x.coins(0), 40);
        // The price is not above the limit, but it is above the coins.
        x.advance(1);
        Checks.due(x.owner(3), NONE);
        Checks.due(x.coins(0), 40);
        // A price that is the limit is bought; a greater one is not.
        x = Checks.market("market 60;stall 8 0 50 0;person a 90 0 0;wish a 42 0 at 0;wish b 43 0 at 0;limit 0 42");
        x.advance(9);
        Checks.due(x.owner(0), 0);
        Checks.due(x.owner(1), NONE);
        x.setLimit(0, 43);
        x.advance(1);
        Checks.due(x.owner(1), 0);
        // The smallest limit is enough for the smallest price.
        x = Checks.market("market 60;stall 8 0 0 0;person a 90 0 0;wish a 1 0 at 0;limit 0 1;advance 1");
        Checks.due(x.owner(0), 0);
        x = Checks.market("market 60;stall 8 0 0 0;person a 90 0 0;wish a 1 0 at 0;advance 1");
        Checks.due(x.owner(0), NONE);
    }

    private static void shoppingOrder() {
        // Person 0 buys first, and so makes the price of the next one higher.
        WishMarket x = Checks.market("market 60;stall 8 0 0 0;person a 99 0 0;person b 99 0 0;person c 99 0 0;"
                + "wish a 98 0 at 0;wish b 98 0 at 0;wish c 98 0 at 0;limit 0 49;limit 1 49;limit 2 50");
        x.advance(1);
        Checks.due(x.owner(0), 0);
        Checks.due(x.purchasePrice(0), 49);
        Checks.due(x.owner(1), 1);
        Checks.due(x.purchasePrice(1), 49);
        Checks.due(x.owner(2), 2);
        Checks.due(x.purchasePrice(2), 50);
        // With four wishes a person can not shop.
        x = Checks.market("market 60;stall 8 0 0 0;person a 99 0 0;wish a 9 0 with 0;wish b 9 0 with 0;"
                + "wish c 9 0 with 0;wish d 9 0 at 0;wish e 9 0 at 0;limit 0 200");
        x.advance(2);
        Checks.due(x.ownedCount(0), 4);
        Checks.due(x.stallOf(4), 0);
    }

    private static void bargaining() {
        // Stall 0 sells cheaply at few stars; stalls 1 and 2 offer more than that.
        String h = "market 60;stall 8 0 0 0;stall 8 99 30 0;stall 8 99 50 0;stall 8 99 50 0;";
        String w = "person b 50 9 0;wish a 40 0 at 0;wish b 40 0 at 0;wish c 40 0 with 0;buy 0 0;buy 0 1";
        WishMarket x = Checks.market(h + "person a 50 9 0 bargain;" + w);
        Checks.due(x.purchasePrice(0), 20);
        x.advance(1);
        // One sale a day, to the greatest offer, of several to the smallest index.
        Checks.due(x.stallOf(0), 2);
        Checks.due(x.coins(0), 50 - 20 - 20 + 40);
        Checks.due(x.owner(1), 0);
        Checks.due(x.stars(2), 50);
        x.advance(1);
        Checks.due(x.stallOf(1), 2);
        // The third one was not bought: an offer of 40 is not more than its value of 40.
        x.advance(9);
        Checks.due(x.owner(2), 0);
        x = Checks.market(h + "person a 50 9 0;" + w);
        x.advance(9);
        Checks.due(x.owner(0), 0);
        Checks.due(x.owner(1), 0);
    }

    private static void bargainingBounds() {
        // The offer is as great as the purchase price: no sale.
        WishMarket x = Checks.market("market 60;stall 8 99 50 0;person a 50 9 0 bargain;wish a 40 0 at 0;buy 0 0");
        x.advance(5);
        Checks.due(x.owner(0), 0);
        // One more coin than the purchase price: a sale, but only to a stall to which the wish can be sold.
        String h = "market 60;stall 8 0 48 0;stall 1 40 50 0;person a 50 9 0 bargain;wish a 40 0 at 0;";
        x = Checks.market(h + "buy 0 0");
        Checks.due(x.purchasePrice(0), 39);
        x.advance(1);
        Checks.due(x.stallOf(0), 1);
        Checks.due(x.coins(0), 51);
        x = Checks.market(h + "wish b 1 0 at 1;buy 0 0");
        x.advance(1);
        Checks.due(x.owner(0), 0);
        x = Checks.market(h.replace("1 40 50", "1 39 50") + "buy 0 0");
        x.advance(1);
        Checks.due(x.owner(0), 0);
        // A bargainer sells only wishes of his own.
        x = Checks.market("market 60;stall 8 99 48 0;stall 8 99 50 0;person a 50 9 0 bargain;person b 50 9 0;"
                + "person c 50 9 0 bargain;wish a 40 0 at 0;buy 1 0;advance 5");
        Checks.due(x.purchasePrice(0), 39);
        Checks.due(x.owner(0), 1);
        // So it is also if the first stall would pay more.
        x = Checks.market("market 60;stall 8 99 50 0;stall 8 99 30 0;person a 50 9 0 bargain;person b 50 9 0;"
                + "wish a 40 0 at 1;buy 1 0;advance 5");
        Checks.due(x.purchasePrice(0), 32);
        Checks.due(x.owner(0), 1);
        // The first wish brings no gain, the second one does.
        x = Checks.market("market 60;stall 8 99 50 0;stall 8 0 0 0;person a 99 9 0 bargain;person b 99 9 0 bargain;"
                + "wish a 40 0 at 0;wish b 40 0 at 1;wish c 40 0 at 1;buy 0 0;buy 0 1;buy 1 2");
        x.advance(1);
        Checks.due(x.owner(0), 0);
        Checks.due(x.stallOf(1), 0);
        Checks.due(x.stallOf(2), 0);
    }

    private static void auctions() {
        WishMarket x = Checks.market("market 5;stall 8 10 9 80;stall 8 20 9 0;stall 8 5 7 0;person a 30 4 0;"
                + "person b 80 4 0;wish a 20 0 at 0;wish b 40 0 at 0;wish c 40 0 at 0;wish d 12 0 at 1;auction 1");
        x.advance(1);
        Checks.due(x.ownedCount(1), 0);
        x.advance(1);
        // Stall 0 auctions wish 1: the bids are 15 and 40. Then stall 1 auctions wish 3: the bids are 12 and 12.
        Checks.due(x.owner(1), 1);
        Checks.due(x.purchasePrice(1), 40);
        Checks.due(x.purchaseDay(1), 1);
        Checks.due(x.cash(0), 50);
        Checks.due(x.stars(0), 9);
        Checks.due(x.stallOf(2), 0);
        Checks.due(x.owner(3), 0);
        Checks.due(x.purchasePrice(3), 12);
        Checks.due(x.coins(0), 18);
        Checks.due(x.coins(1), 40);
        Checks.due(x.cash(1), 32);
        Checks.due(x.cash(2), 5);
        // The wish goes back to the stall of the purchase.
        Checks.due(x.returnWish(3), 10);
        Checks.due(x.stallOf(3), 1);
        Checks.due(x.stars(1), 7);
        x.advance(4);
        Checks.due(x.day(), 6);
        x.advance(1);
        // A year later the values are 18, 36 and 10; the bids for wish 2 are 14 and 20, for wish 3 they are 10 and 10.
        Checks.due(x.owner(2), 1);
        Checks.due(x.purchasePrice(2), 20);
        Checks.due(x.owner(3), 0);
        Checks.due(x.purchasePrice(3), 10);
        Checks.due(x.imbalance(), 0);
    }

    private static void auctionBids() {
        String h = "market 5;stall 8 10 9 80;auction 0;";
        // A bid of half of the value, rounded down, is enough: 12 of 25. One less is not.
        WishMarket x = Checks.market(h + "person a 24 4 0;wish a 25 0 at 0");
        x.advance(1);
        Checks.due(x.purchasePrice(0), 12);
        Checks.due(x.coins(0), 12);
        x = Checks.market(h + "person a 23 4 0;wish a 25 0 at 0");
        x.advance(1);
        Checks.due(x.stallOf(0), 0);
        Checks.due(x.coins(0), 23);
        // The greatest bid decides, also if an earlier one is great enough.
        x = Checks.market(h + "person a 24 4 0;person b 26 4 0;person c 27 4 0;wish a 25 0 at 0");
        x.advance(1);
        Checks.due(x.owner(0), 1);
        Checks.due(x.purchasePrice(0), 13);
        // The bid is at least 1: half of a value of 1 is 0, and so is half of one coin.
        x = Checks.market(h + "person a 1 4 0;wish a 1 0 at 0");
        x.advance(1);
        Checks.due(x.stallOf(0), 0);
        x = Checks.market(h + "person a 2 4 0;wish a 1 0 at 0");
        x.advance(1);
        Checks.due(x.purchasePrice(0), 1);
        x = Checks.market(h + "person a 99 4 0;wish a 1 0 at 0 worn 9");
        x.advance(1);
        Checks.due(x.value(0), 0);
        Checks.due(x.stallOf(0), 0);
        // Who owns four wishes does not bid.
        String four = "wish a 9 0 with 0;wish b 9 0 with 0;wish c 9 0 with 0;wish d 9 0 with 0;wish e 30 0 at 0";
        x = Checks.market(h + "person a 999 4 0;person b 40 4 0;" + four);
        x.advance(1);
        Checks.due(x.owner(4), 1);
        Checks.due(x.purchasePrice(4), 20);
        x = Checks.market(h + "person a 999 4 0;" + four);
        x.advance(1);
        Checks.due(x.stallOf(4), 0);
        // Auctions of one day follow one another: the second stall finds fewer coins.
        x = Checks.market(h + "stall 1 0 0 0;person a 40 4 0;wish a 20 0 at 0;wish b 20 0 at 1");
        x.advance(1);
        Checks.due(x.purchasePrice(0), 20);
        Checks.due(x.purchasePrice(1), 10);
        // Worn wishes are auctioned by their value, not by their base value.
        x = Checks.market(h + "person a 40 4 0;wish a 30 0 at 0 worn 5;wish b 20 0 at 0");
        x.advance(1);
        Checks.due(x.owner(1), 0);
        Checks.due(x.stallOf(0), 0);
    }

    private static void taxes() {
        WishMarket x = Checks.market("market 5;stall 1 30 0 0;stall 1 25 0 0;stall 1 25 0 0;person a 99 4 0;"
                + "person b 55 4 0;person c 9 4 0;tax 2 10");
        x.advance(2);
        Checks.due(x.coins(0), 99);
        x.advance(1);
        // 9 to stall 1, then 5 to stall 2, then nothing.
        Checks.due(x.coins(0), 90);
        Checks.due(x.coins(1), 50);
        Checks.due(x.coins(2), 9);
        Checks.due(x.cash(0), 30);
        Checks.due(x.cash(1), 34);
        Checks.due(x.cash(2), 30);
        x.advance(5);
        Checks.due(x.coins(0), 81);
        Checks.due(x.cash(0), 39);
        Checks.due(x.coins(1), 45);
        Checks.due(x.cash(2), 35);
        Checks.due(x.imbalance(), 0);
        x = Checks.market("market 5;stall 1 0 0 0;person a 99 4 0;tax 0 50");
        x.advance(1);
        Checks.due(x.coins(0), 50);
        x = Checks.market("market 5;stall 1 0 0 0;person a 99 4 0;tax 0 0");
        x.advance(1);
        Checks.due(x.coins(0), 99);
    }

    private static void phasesInOrder() {
        // A birthday comes before shopping: what is bought on the day is not granted on it.
        WishMarket x = Checks.market("market 5;stall 8 0 50 0;person a 50 0 0 party;wish a 20 0 at 0;limit 0 20");
        Checks.due(x.advance(1), 0);
        Checks.due(x.owner(0), 0);
        Checks.due(x.advance(4), 0);
        Checks.due(x.advance(1), 1);
        Checks.due(x.happiness(0), 18);
        // Shopping comes before bargaining: bought for 10 and sold for 20 on one day.
        x = Checks.market("market 5;stall 8 0 0 0;stall 8 99 50 0;person a 50 4 0 bargain;wish a 20 0 at 0;limit 0 20");
        x.advance(1);
        Checks.due(x.stallOf(0), 1);
        Checks.due(x.coins(0), 60);
        // Bargaining comes before the auction: the wish that was sold is auctioned at once.
        x = Checks.market("market 5;stall 8 0 0 0;stall 8 99 50 0;person a 50 4 0 bargain;wish a 20 0 at 0;buy 0 0;"
                + "auction 0;tax 0 50");
        x.advance(1);
        Checks.due(x.owner(0), 0);
        Checks.due(x.purchasePrice(0), 20);
        // The auction comes before the tax: 50 - 10 + 20 - 20, and half of that.
        Checks.due(x.coins(0), 20);
        Checks.due(x.cash(0), 30);
        // The wear of the year's end comes after the phases of the last day.
        x = Checks.market("market 5;stall 8 0 50 0;person a 50 4 0 party;wish a 20 0 with 0 worn 9");
        Checks.due(x.advance(5), 1);
        Checks.due(x.happiness(0), 2);
        Checks.due(x.fadedCount(), 0);
    }

    private static void yearEnds() {
        WishMarket x = Checks.market("market 4;stall 8 0 50 0;person a 50 2 0;wish a 20 0 with 0;wish b 20 0 at 0;"
                + "wish c 20 0 with 0 worn 8;wish d 20 0 with 0;advance 2;grant 3;advance 1");
        Checks.due(x.wear(0), 0);
        x.advance(1);
        Checks.due(x.wear(0), 1);
        Checks.due(x.wear(1), 1);
        Checks.due(x.wear(2), 9);
        Checks.due(x.wear(3), 0);
        x.advance(3);
        Checks.due(x.wear(2), 9);
        Checks.due(x.owner(2), 0);
        x.advance(1);
        Checks.due(x.wear(2), 10);
        Checks.due(x.owner(2), NONE);
        Checks.due(x.ownedCount(0), 1);
        x.advance(300);
        Checks.due(x.wear(0), 10);
        Checks.due(x.wear(1), 10);
        Checks.due(x.wear(3), 0);
        Checks.due(x.stockCount(0), 0);
        Checks.due(x.grantObstacle(0), 1);
        Checks.due(x.buyObstacle(0, 1), 1);
        Checks.due(x.imbalance(), 0);
    }

    private static void wrongDays() {
        WishMarket x = Checks.market("market 4;stall 8 0 50 0;person a 50 2 0");
        for (int wrong : new int[] {0, -1, 301, Integer.MIN_VALUE, Integer.MAX_VALUE}) {
            Checks.thrown(Checks.ARGUMENT, () -> x.advance(wrong));
        }
        Checks.due(x.day(), 0);
        Checks.due(x.undoCount(), 0);
        x.advance(300);
        x.advance(1);
        Checks.due(x.day(), 301);
    }
}
