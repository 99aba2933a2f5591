/** Sections 4 and 5: the edges of each phase of a day, and of the end of a year, sentence by sentence. */
public final class DayBoundsTest {
    private static final int NONE = WishMarket.NONE;

    public static void main(String[] args) {
        wearAtYearEnd();
        fading();
        candles();
        celebrators();
        shoppingLimits();
        shoppingChoice();
        shoppingOnceADay();
        bargainGain();
        bargainChoice();
        bargainStalls();
        bargainOrder();
        auctionDay();
        auctionedWish();
        bidders();
        bids();
        winningBid();
        auctionEffects();
        taxDay();
        taxRounding();
        taxedStall();
        noStallsYet();
        nextDay();
        onceAYear();
        everyPhaseOnOneDay();
        Checks.end();
    }

    private static void wearAtYearEnd() {
        Checks.sentence("At the end of each year, the wear of every wish that is in a stall or owned increases by 1.");
        for (int year : new int[] {4, 60}) {
            WishMarket x = Checks.market("market " + year + ";stall 8 0 0 0;person a 0 0 0;wish v 9 0 at 0;"
                    + "wish w 9 0 with 0;wish u 9 0 with 0 worn 3;grant 2");
            for (int ended = 0; ended < 9; ended++) {
                x.advance(year - 1);
                Checks.due(x.wear(0), ended);
                Checks.due(x.wear(1), ended);
                x.advance(1);
                Checks.due(x.wear(0), ended + 1);
                Checks.due(x.wear(1), ended + 1);
                Checks.due(x.wear(2), 3);
            }
        }
    }

    private static void fading() {
        Checks.sentence("If it is 10 then, the wish fades: it is in no stall and nobody owns it any more.");
        WishMarket x = Checks.market("market 4;stall 2 9 0 0;person a 9 2 0;wish v 9 0 at 0 worn 9;"
                + "wish w 9 0 with 0 worn 9;wish t 9 0 at 0 worn 8;wish u 9 0 with 0 worn 8;advance 3");
        Checks.due(x.fadedCount(), 0);
        Checks.due(x.sellObstacle(3, 0), 2);
        x.advance(1);
        Checks.due(x.fadedCount(), 2);
        for (int w = 0; w < 2; w++) {
            Checks.due(x.wear(w), 10);
            Checks.due(x.stallOf(w), NONE);
            Checks.due(x.owner(w), NONE);
            Checks.due(x.isGranted(w), false);
        }
        // The place in the stall is free again.
        Checks.due(x.stockCount(0), 1);
        Checks.due(x.ownedCount(0), 1);
        Checks.due(x.sellObstacle(3, 0), 0);
        Checks.due(x.wear(2), 9);
        x.advance(4);
        Checks.due(x.fadedCount(), 4);
        x.advance(4);
        Checks.due(x.wear(0), 10);
        Checks.due(x.wear(2), 10);
        // A purchase is forgotten with the wish.
        x = Checks.market("market 4;stall 2 9 0 0;person a 9 2 0;wish v 9 0 at 0 worn 9;buy 0 0;advance 4");
        Checks.due(x.purchaseDay(0), NONE);
        Checks.due(x.purchasePrice(0), NONE);
        Checks.due(x.refund(0), NONE);
    }

    private static void candles() {
        Checks.sentence("for each person, in the order of the indices, whose birthday is the day of the year, the "
                + "number of candles increases by 1.");
        WishMarket x = Checks.market("market 4;stall 8 0 0 0;person a 0 0 0;person b 0 3 99;person c 0 3 5");
        for (int day = 0; day < 13; day++) {
            // Birthdays are those of the days that have passed.
            Checks.due(x.candles(0), (day + 3) / 4);
            Checks.due(x.candles(1), 99 + day / 4);
            Checks.due(x.candles(2), 5 + day / 4);
            x.advance(1);
        }
    }

    private static void celebrators() {
        Checks.sentence("If the person is a celebrator, and at least one wish can be granted to the person, the one "
                + "with the greatest value is granted; of several the one with the smallest index.");
        String h = "market 4;stall 8 0 0 0;person a 0 0 6 party;person b 0 0 9;";
        // The candle of the day counts; one more would be needed for the next strength.
        Checks.due(Checks.market(h + "wish w 9 7 with 0").advance(1), 1);
        Checks.due(Checks.market(h + "wish w 9 8 with 0").advance(4), 0);
        Checks.due(Checks.market(h + "wish w 9 8 with 0").advance(5), 1);
        Checks.due(Checks.market(h + "wish w 9 0 with 1").advance(5), 0);
        Checks.due(Checks.market(h + "wish w 9 0 at 0").advance(5), 0);
        Checks.due(Checks.market(h + "advance 1").advance(300), 0);
        // A value of 0 is a value too.
        Checks.due(Checks.market(h + "wish w 1 0 with 0 worn 9").advance(1), 1);
        WishMarket x = Checks.market(h + "wish v 19 0 with 0;wish w 40 0 with 0 worn 5;wish u 20 0 with 0;"
                + "wish t 99 8 with 0");
        Checks.due(x.advance(1), 1);
        Checks.due(x.isGranted(1), true);
        Checks.due(x.happiness(0), 20);
        Checks.due(x.advance(3), 0);
        // A year later wishes 0, 2 and 3 are worth 17, 18 and 89, and candle 8 has come.
        Checks.due(x.advance(1), 1);
        Checks.due(x.isGranted(3), true);
        Checks.due(x.advance(4), 1);
        Checks.due(x.isGranted(2), true);
        // Two celebrators on one day, and one on the last day of the year.
        x = Checks.market("market 4;stall 8 0 0 0;person a 0 3 0 party;person b 0 3 0 party;wish v 9 0 with 1;"
                + "wish w 8 0 with 0");
        Checks.due(x.advance(3), 0);
        Checks.due(x.advance(1), 2);
    }

    private static void shoppingLimits() {
        Checks.sentence("each person, in the order of the indices, with a shopping limit greater than 0 looks at the "
                + "wishes that the person can buy and whose price is not greater than the shopping limit.");
        int[][] limitPriceBought = {{0, 1, 0}, {1, 1, 1}, {1, 2, 0}, {2, 1, 1}, {49, 50, 0}, {50, 50, 1}, {51, 50, 1},
            {98, 99, 0}, {99, 99, 1}, {200, 99, 1}};
        for (int[] row : limitPriceBought) {
            WishMarket x = Checks.market("market 60;stall 8 0 50 0;person a 999 0 0;wish w " + row[1]
                    + " 0 at 0;limit 0 " + row[0] + ";advance 1");
            Checks.due(x.owner(0), row[2] == 1 ? 0 : NONE);
        }
        for (int limit : new int[] {197, 198}) {
            WishMarket x = Checks.market("market 60;stall 8 0 50 100;person a 999 0 0;wish w 99 0 at 0;limit 0 "
                    + limit);
            x.advance(1);
            Checks.due(x.owner(0), limit == 198 ? 0 : NONE);
        }
        // The coins may just be enough, and they may be one too few.
        for (int coins : new int[] {49, 50}) {
            WishMarket x = Checks.market("market 60;stall 8 0 50 0;person a " + coins
                    + " 0 0;wish w 50 0 at 0;limit 0 200");
            x.advance(2);
            Checks.due(x.owner(0), coins == 50 ? 0 : NONE);
        }
    }

    private static void shoppingChoice() {
        Checks.sentence("If there is one, the person buys the one with the lowest price;"
                + " of several the one with the smallest index.");
        WishMarket x = Checks.market("market 60;stall 8 0 0 0;stall 8 0 50 0;person a 999 0 0;wish s 12 0 at 1;"
                + "wish t 10 0 with 0;wish u 22 0 at 0;wish v 11 0 at 1;wish w 22 0 at 0;wish x 12 0 at 1;limit 0 200;"
                + "advance 1");
        Checks.due(x.owner(2), 0);
        Checks.due(x.stallOf(3), 1);
        Checks.due(x.stallOf(4), 0);
        // Two prices that are only rounded to the same amount: 5.0 and 5.5.
        x = Checks.market("market 60;stall 8 0 0 0;person a 999 0 0;wish v 11 0 at 0;wish w 10 0 at 0;limit 0 200;"
                + "advance 1");
        Checks.due(x.owner(0), 0);
        Checks.due(x.stallOf(1), 0);
    }

    private static void shoppingOnceADay() {
        Checks.sentence("This is one wish a day; its price follows the stars of the stall at this time.");
        String h = "market 60;stall 8 0 # 0;person a 99 0 0;person b 99 0 0;wish v 50 0 at 0;wish w 50 0 at 0;"
                + "wish u 50 0 at 0;";
        WishMarket x = Checks.market(h.replace("#", "0") + "limit 0 200;advance 1");
        Checks.due(x.ownedCount(0), 1);
        x.advance(1);
        Checks.due(x.ownedCount(0), 2);
        // The first purchase makes two stars of one, and so a price of 26 of 25.
        x = Checks.market(h.replace("#", "1") + "limit 0 25;limit 1 25;advance 1");
        Checks.due(x.owner(0), 0);
        Checks.due(x.purchasePrice(0), 25);
        Checks.due(x.ownedCount(1), 0);
        x = Checks.market(h.replace("#", "1") + "limit 0 25;limit 1 26;advance 1");
        Checks.due(x.owner(1), 1);
        Checks.due(x.purchasePrice(1), 26);
        // At 50 stars the price stays.
        x = Checks.market(h.replace("#", "50") + "limit 0 50;limit 1 50;advance 1");
        Checks.due(x.purchasePrice(0), 50);
        Checks.due(x.purchasePrice(1), 50);
    }

    private static void bargainGain() {
        Checks.sentence("For the first of them for which a stall to which it can be sold offers more than the "
                + "purchase price (more than its value, if its owner did not buy it)");
        // Bought for 26; the other stall offers less, as much, and one coin more.
        int[][] starsOfferStall = {{0, 25, NONE}, {2, 26, NONE}, {4, 27, 1}};
        for (int[] row : starsOfferStall) {
            WishMarket x = Checks.market("market 60;stall 1 0 0 4;stall 8 99 " + row[0] + " 0;person a 99 9 0 bargain;"
                    + "wish w 50 0 at 0;buy 0 0");
            Checks.due(x.purchasePrice(0), 26);
            Checks.due(x.offer(0, 1), row[1]);
            x.advance(1);
            Checks.due(x.stallOf(0), row[2]);
        }
        // No offer is above the value, so what was not bought is not sold.
        for (int wear = 0; wear < 10; wear += 3) {
            WishMarket x = Checks.market("market 60;stall 8 999 50 0;person a 99 9 0 bargain;person b 99 9 0;"
                    + "wish v 99 0 with 0 worn " + wear + ";wish w 1 0 with 0;wish u 9 0 at 0;buy 1 2;gift 2 0;"
                    + "advance 59");
            Checks.due(x.ownedCount(0), 3);
        }
        // The star that a purchase brings makes the stall itself offer 50 for what it sold for 49; it needs the cash.
        int[][] cashBaseStall = {{1, 99, 0}, {0, 99, NONE}, {1, 98, NONE}};
        for (int[] row : cashBaseStall) {
            WishMarket x = Checks.market("market 60;stall 8 " + row[0] + " 0 0;person a 99 9 0 bargain;wish w " + row[1]
                    + " 0 at 0;limit 0 49;advance 1");
            Checks.due(x.stallOf(0), row[2]);
            Checks.due(x.coins(0), row[2] == 0 ? 99 - 49 + 50 : 99 - 49);
            Checks.due(x.stars(0), 1);
        }
    }

    private static void bargainChoice() {
        Checks.sentence("looks at the wishes that the person owns, in the order of their indices.");
        // Wish 1 gains 20 and wish 2 gains 40; wish 0 gains nothing.
        String h = "market 60;stall 8 0 0 0;stall 8 999 50 0;person a 999 9 0 bargain;wish u 40 0 at 1;"
                + "wish v 40 0 at 0;wish w 80 0 at 0;buy 0 0;buy 0 2;buy 0 1";
        WishMarket x = Checks.market(h);
        x.advance(1);
        Checks.due(x.owner(0), 0);
        Checks.due(x.stallOf(1), 1);
        Checks.due(x.owner(2), 0);
        Checks.sentence("A person sells at most one wish a day in this phase.");
        x.advance(1);
        Checks.due(x.stallOf(2), 1);
        Checks.due(x.owner(0), 0);
        // Each of two bargainers sells one.
        x = Checks.market(h.replace("bargain;", "bargain;person b 99 9 0 bargain;") + ";gift 1 1;sell 1 0;buy 1 1;"
                + "advance 1");
        Checks.due(x.stallOf(1), 1);
        Checks.due(x.stallOf(2), 1);
    }

    private static void bargainStalls() {
        Checks.sentence("the person sells it to the stall with the greatest offer;"
                + " of several the one with the smallest index.");
        String h = "market 60;stall 8 0 0 0;stall # 30 0;stall 1 99 40 0;stall 1 99 40 0;stall 8 99 39 0;"
                + "person a 99 9 0 bargain;wish u 50 0 at 0;buy 0 0";
        // Bought for 25; the offers are 25, 40, 45, 45 and 44.
        WishMarket x = Checks.market(h.replace("#", "8 99"));
        x.advance(1);
        Checks.due(x.stallOf(0), 2);
        Checks.due(x.coins(0), 99 - 25 + 45);
        x = Checks.market(h.replace("#", "8 99") + ";wish f 1 0 at 2;advance 1");
        Checks.due(x.stallOf(0), 3);
        x = Checks.market(h.replace("#", "8 99") + ";wish f 1 0 at 2;wish g 1 0 at 3;advance 1");
        Checks.due(x.stallOf(0), 4);
        // The greatest offer needs the cash for it: 45 is just enough, 44 is not.
        x = Checks.market(h.replace("#", "8 99").replace("1 99 40", "1 44 40"));
        x.advance(1);
        Checks.due(x.stallOf(0), 4);
        x = Checks.market(h.replace("#", "8 99").replace("1 99 40", "1 45 40"));
        x.advance(1);
        Checks.due(x.stallOf(0), 2);
        // The only stall that gains is full, or without cash: no sale.
        String one = "market 60;stall 8 0 0 0;stall 1 # 50 0;person a 99 9 0 bargain;wish u 50 0 at 0;buy 0 0";
        x = Checks.market(one.replace("#", "50"));
        x.advance(1);
        Checks.due(x.stallOf(0), 1);
        x = Checks.market(one.replace("#", "49"));
        x.advance(1);
        Checks.due(x.owner(0), 0);
        x = Checks.market(one.replace("#", "50") + ";wish f 1 0 at 1;advance 1");
        Checks.due(x.owner(0), 0);
    }

    private static void bargainOrder() {
        Checks.sentence("each person, in the order of the indices, who is a bargainer looks at the wishes");
        // Each has bought one wish for 20, and the second stall offers 40 for each, but it can take only one.
        String h = "market 60;stall 8 0 0 0;stall # 50 0;person a 99 9 0 bargain;person b 99 9 0 bargain;"
                + "wish v 40 0 at 0;wish w 40 0 at 0;";
        for (String stall : new String[] {"1 99", "8 40", "8 79"}) {
            for (int of : new int[] {0, 1}) {
                // The order of the persons decides, not that of the wishes.
                WishMarket x = Checks.market(h.replace("#", stall) + "buy 0 " + of + ";buy 1 " + (1 - of));
                x.advance(1);
                Checks.due(x.stallOf(of), 1);
                Checks.due(x.owner(1 - of), 1);
                Checks.due(x.coins(0), 99 - 20 + 40);
                Checks.due(x.coins(1), 99 - 20);
            }
        }
        // Where two can be taken, both are sold; a person who is no bargainer leaves the place to the next one.
        WishMarket x = Checks.market(h.replace("#", "2 80") + "buy 0 1;buy 1 0;advance 1");
        Checks.due(x.stockCount(1), 2);
        x = Checks.market(h.replace("#", "1 99").replace("0 bargain;person b", "0 party;person b")
                + "buy 0 1;buy 1 0;advance 1");
        Checks.due(x.owner(1), 0);
        Checks.due(x.stallOf(0), 1);
    }

    private static void auctionDay() {
        Checks.sentence("Fourth, auctions: if the day of the year is the auction day");
        for (int day : new int[] {0, 1, 3}) {
            WishMarket x = Checks.market("market 4;stall 8 0 0 0;person a 99 0 0;wish v 20 0 at 0;wish w 20 0 at 0;"
                    + "auction " + day);
            for (int passed = 1; passed <= 8; passed++) {
                x.advance(1);
                Checks.due(x.ownedCount(0), passed > day + 4 ? 2 : passed > day ? 1 : 0);
            }
            Checks.due(x.purchaseDay(0), day);
            Checks.due(x.purchaseDay(1), day + 4);
        }
        WishMarket x = Checks.market("market 4;stall 8 0 0 0;person a 99 0 0;wish v 20 0 at 0;advance 9");
        Checks.due(x.stallOf(0), 0);
    }

    private static void auctionedWish() {
        Checks.sentence("each stall, in the order of the indices, that contains at least one wish auctions the wish "
                + "with the greatest value in it; of several the one with the smallest index.");
        String h = "market 9;stall 8 0 0 0;stall 8 0 0 0;stall 8 0 0 0;person a # 0 0;auction 0;wish t 50 0 with 0;";
        WishMarket x = Checks.market(h.replace("#", "999") + "wish u 19 0 at 0;wish v 40 0 at 0 worn 5;"
                + "wish w 20 0 at 0;wish s 1 0 at 2;advance 1");
        Checks.due(x.owner(2), 0);
        Checks.due(x.stallOf(1), 0);
        Checks.due(x.stallOf(3), 0);
        Checks.due(x.owner(4), 0);
        // If the most valuable one finds no bid that is great enough, no other one is tried.
        x = Checks.market(h.replace("#", "20") + "wish u 50 0 at 0;wish v 9 0 at 0;advance 1");
        Checks.due(x.ownedCount(0), 1);
        // An empty stall auctions nothing.
        x = Checks.market(h.replace("#", "99") + "advance 1");
        Checks.due(x.coins(0), 99);
    }

    private static void bidders() {
        Checks.sentence("Each person who owns fewer than 4 wishes bids");
        String h = "market 9;stall 8 0 0 0;stall 8 0 0 0;auction 0;person a 99 0 0;person b 50 0 0;wish q 1 0 with 0;"
                + "wish r 1 0 with 0;wish s 1 0 with 0;wish t 20 0 at 0";
        WishMarket x = Checks.market(h + ";advance 1");
        Checks.due(x.owner(3), 0);
        x = Checks.market(h + ";wish u 1 0 with 0;advance 1");
        Checks.due(x.owner(3), 1);
        // The fourth wish of the first auction shuts the person out of the second one.
        x = Checks.market(h + ";wish u 20 0 at 1;advance 1");
        Checks.due(x.owner(3), 0);
        Checks.due(x.owner(4), 1);
        Checks.sentence("Otherwise, or if nobody bids, the wish stays in the stall.");
        x = Checks.market("market 9;stall 8 0 0 0;auction 0;person a 99 0 0;wish q 1 0 with 0;wish r 1 0 with 0;"
                + "wish s 1 0 with 0;wish t 1 0 with 0;wish u 20 0 at 0;advance 1");
        Checks.due(x.stallOf(4), 0);
        Checks.due(x.coins(0), 99);
        Checks.due(x.cash(0), 0);
    }

    private static void bids() {
        Checks.sentence("the bid is half of the coins of the person, rounded down, but not more than the value of the "
                + "wish.");
        int[][] coinsBid = {{10, 5}, {11, 5}, {18, 9}, {19, 9}, {20, 10}, {21, 10}, {999, 10}};
        for (int[] row : coinsBid) {
            WishMarket x = Checks.market("market 9;stall 8 0 0 0;auction 0;person a " + row[0]
                    + " 0 0;wish w 10 0 at 0;advance 1");
            Checks.due(x.purchasePrice(0), row[1]);
            Checks.due(x.coins(0), row[0] - row[1]);
            Checks.due(x.cash(0), row[1]);
        }
        Checks.sentence("The greatest bid wins; of several equal bids that of the person with the smallest index.");
        int[][] coinsWinner = {{18, 20, 20, 1}, {20, 20, 18, 0}, {18, 18, 20, 2}, {21, 20, 999, 0}, {19, 18, 18, 0},
            {18, 19, 18, 0}};
        for (int[] row : coinsWinner) {
            WishMarket x = Checks.market("market 9;stall 8 0 0 0;auction 0;person a " + row[0] + " 0 0;person b "
                    + row[1] + " 0 0;person c " + row[2] + " 0 0;wish w 10 0 at 0;advance 1");
            Checks.due(x.owner(0), row[3]);
        }
    }

    private static void winningBid() {
        Checks.sentence("If it is at least half of the value of the wish, rounded down, and at least 1");
        // Coins, base and wear, and whether the wish is sold: half of 10 and of 11 is 5, half of 1 is 0, and 0 is no
        // bid.
        int[][] rows = {{9, 10, 0, 0}, {10, 10, 0, 1}, {9, 11, 0, 0}, {10, 11, 0, 1}, {11, 12, 0, 0}, {12, 12, 0, 1},
            {0, 1, 0, 0}, {1, 1, 0, 0}, {2, 1, 0, 1}, {1, 2, 0, 0}, {2, 2, 0, 1}, {2, 3, 0, 1}, {3, 4, 0, 0},
            {4, 4, 0, 1}, {999, 1, 1, 0}, {999, 9, 9, 0}, {999, 10, 9, 1}, {98, 99, 0, 1}, {97, 99, 0, 0}};
        for (int[] row : rows) {
            WishMarket x = Checks.market("market 9;stall 8 0 50 100;auction 0;person a " + row[0] + " 0 0;wish w "
                    + row[1] + " 0 at 0 worn " + row[2] + ";advance 1");
            Checks.due(x.owner(0), row[3] == 1 ? 0 : NONE);
            Checks.due(x.stallOf(0), row[3] == 1 ? NONE : 0);
        }
    }

    private static void auctionEffects() {
        Checks.sentence("the bid, the current day and the stall are the purchase price, the purchase day and the "
                + "stall of the purchase; the stars do not change.");
        for (int stars : new int[] {0, 50}) {
            WishMarket x = Checks.market("market 9;stall 8 0 9 0;stall 8 3 " + stars + " 100;person a 30 0 0;"
                    + "wish w 20 0 at 1;auction 2;advance 3");
            Checks.due(x.purchasePrice(0), 15);
            Checks.due(x.purchaseDay(0), 2);
            Checks.due(x.stars(1), stars);
            Checks.due(x.stars(0), 9);
            Checks.due(x.cash(1), 18);
            Checks.due(x.coins(0), 15);
            x.advance(2);
            Checks.due(x.returnObstacle(0), 0);
            x.advance(1);
            Checks.due(x.returnObstacle(0), 2);
            x.undo();
            Checks.due(x.returnWish(0), 13);
            Checks.due(x.stallOf(0), 1);
        }
    }

    private static void taxDay() {
        Checks.sentence("Fifth, taxes: if the day of the year is the tax day");
        for (int day : new int[] {0, 1, 3}) {
            WishMarket x = Checks.market("market 4;stall 8 0 0 0;person a 100 0 0;tax " + day + " 50");
            for (int passed = 1; passed <= 8; passed++) {
                x.advance(1);
                Checks.due(x.coins(0), passed > day + 4 ? 25 : passed > day ? 50 : 100);
            }
        }
    }

    private static void taxRounding() {
        Checks.sentence("pays a tax of some percent of the coins, rounded down");
        int[][] coinsPercentTax = {{0, 50, 0}, {1, 50, 0}, {2, 50, 1}, {3, 50, 1}, {99, 1, 0}, {100, 1, 1}, {199, 1, 1},
            {999, 50, 499}, {999, 0, 0}, {999, 49, 489}, {19, 10, 1}, {20, 10, 2}};
        for (int[] row : coinsPercentTax) {
            WishMarket x = Checks.market("market 4;stall 8 7 0 0;person a " + row[0] + " 0 0;tax 0 " + row[1]
                    + ";advance 1");
            Checks.due(x.coins(0), row[0] - row[2]);
            Checks.due(x.cash(0), 7 + row[2]);
        }
    }

    private static void taxedStall() {
        Checks.sentence("the taxes go to the stall with the least cash at that time, of several to the one with the "
                + "smallest index.");
        String h = "market 4;stall 8 # 0 0;stall 8 20 0 0;stall 8 20 0 0;tax 0 50;person a 20 0 0";
        int[] cash = {19, 20, 21};
        int[] stall = {0, 0, 1};
        for (int i = 0; i < 3; i++) {
            WishMarket x = Checks.market(h.replace("#", String.valueOf(cash[i])) + ";advance 1");
            for (int s = 0; s < 3; s++) {
                Checks.due(x.cash(s), (s == 0 ? cash[i] : 20) + (s == stall[i] ? 10 : 0));
            }
        }
        // Each person pays when the one before has paid: to stalls 1, 2, 0 and, all three being equal then, 0 again.
        WishMarket x = Checks.market(h.replace("#", "21") + ";person b 21 0 0;person c 18 0 0;person d 2 0 0;"
                + "advance 1");
        Checks.due(x.cash(0), 21 + 9 + 1);
        Checks.due(x.cash(1), 30);
        Checks.due(x.cash(2), 30);
    }

    private static void noStallsYet() {
        Checks.sentence("While a setup is parsed, there may be no stalls yet; then there are no taxes.");
        WishMarket x = Checks.market("market 4;person a 100 0 0;tax 0 50;auction 0;advance 5;stall 8 0 0 0");
        Checks.due(x.coins(0), 100);
        Checks.due(x.cash(0), 0);
        Checks.due(x.candles(0), 2);
        Checks.due(Checks.market("market 4;person a 100 0 0;tax 0 50;advance 4;stall 8 0 0 0;advance 1").coins(0), 50);
        // Nor need there be persons.
        x = Checks.market("market 4;stall 8 0 0 0;wish w 9 0 at 0;tax 0 50;auction 0;advance 4;person a 100 0 0");
        Checks.due(x.stallOf(0), 0);
        Checks.due(x.wear(0), 1);
        Checks.due(x.candles(0), 0);
        Checks.due(Checks.market("market 4;advance 300;stall 8 0 0 0;person a 100 0 0").day(), 300);
    }

    private static void nextDay() {
        Checks.sentence("Sixth, the current day increases by 1. If the day of the year is 0 then, a year has ended "
                + "(section 4).");
        WishMarket x = Checks.market("market 4;stall 8 0 50 0;person a 99 3 0 party;wish w 20 0 with 0 worn 9;"
                + "wish v 20 0 at 0 worn 9;advance 3;limit 0 200");
        // On the last day of the year there are still a birthday and a purchase; only then the wear comes.
        Checks.due(x.day(), 3);
        Checks.due(x.fadedCount(), 0);
        Checks.due(x.coinsAfter(0, 1), 99 - 2);
        Checks.due(x.advance(1), 1);
        Checks.due(x.happiness(0), 2);
        Checks.due(x.day(), 4);
        Checks.due(x.dayOfYear(), 0);
        Checks.due(x.fadedCount(), 1);
    }

    private static void onceAYear() {
        for (int year : new int[] {4, 7, 60}) {
            for (int day : new int[] {0, 2, year - 1}) {
                onceAYear(year, day);
            }
        }
    }

    /** Birthday, auction and taxes of this day of the year, looked at each day for more than two years. */
    private static void onceAYear(int year, int day) {
        String stall = ";stall 8 0 0 0";
        String text = "market " + year + stall + ";person a 999 " + day + " 0" + ";wish u 99 0 at 0;wish v 99 0 at 0;"
                + "wish w 99 0 at 0;wish x 99 0 at 0";
        WishMarket bids = Checks.market(text + ";auction " + day);
        WishMarket pays = Checks.market(text + ";tax " + day + " 50");
        int times = 0;
        int coins = 999;
        for (int today = 0; today < 2 * year + 3; today++) {
            Checks.sentence("if the day of the year is the auction day");
            Checks.due(bids.ownedCount(0), times);
            Checks.sentence("if the day of the year is the tax day");
            Checks.due(pays.coins(0), coins);
            Checks.sentence("whose birthday is the day of the year, the number of candles increases by 1.");
            Checks.due(pays.candles(0), times);
            Checks.due(bids.daysUntilBirthday(0) == 0, today % year == day);
            Checks.due(bids.advance(1) + pays.advance(1), 0);
            if (today % year == day) {
                times++;
                coins -= coins / 2;
            }
        }
    }

    private static void everyPhaseOnOneDay() {
        Checks.sentence("A day has these phases, in this order.");
        // On day 3 of each year of 4 days all is done: a and b have birthday, it is the auction and the tax day, and
        // the year ends.
        WishMarket x = Checks.market("market 4;stall 2 30 0 0;stall 1 400 50 0;person a 200 3 4 party bargain;"
                + "person b 100 3 0;wish u 50 5 with 0;wish v 60 0 at 0;wish w 90 0 at 0;advance 3;limit 0 30;"
                + "auction 3;tax 3 10");
        Checks.due(x.advance(1), 1);
        // The fifth candle lets u be granted, for 50.
        Checks.due(x.candles(0), 5);
        Checks.due(x.happiness(0), 50);
        Checks.due(x.isGranted(0), true);
        // Then a buys v for 30 and sells it to stall 1 for 60, so that a has 230; w costs 45 and is too dear.
        // Stall 0 auctions w: the bids are 90 of a and 50 of b. Stall 1 auctions v: the bids are 60 of a, of the 140
        // that are left, and 50 of b.
        Checks.due(x.owner(2), 0);
        Checks.due(x.purchasePrice(2), 90);
        Checks.due(x.owner(1), 0);
        Checks.due(x.purchasePrice(1), 60);
        Checks.due(x.purchaseDay(1), 3);
        // Of the 80 that are left a pays 8, and b pays 10 of 100, to stall 0, which has 30 + 30 + 90.
        Checks.due(x.coins(0), 72);
        Checks.due(x.coins(1), 90);
        Checks.due(x.cash(0), 30 + 30 + 90 + 8 + 10);
        Checks.due(x.cash(1), 400 - 60 + 60);
        // One star came from the purchase, none from the auctions.
        Checks.due(x.stars(0), 1);
        Checks.due(x.stars(1), 50);
        // At last the year ends.
        Checks.due(x.wear(0), 0);
        Checks.due(x.wear(1), 1);
        Checks.due(x.wear(2), 1);
        Checks.due(x.day(), 4);
        Checks.due(x.candles(1), 1);
        Checks.due(x.imbalance(), 0);
    }
}
