/** Section 3: each obstacle at its bound, the order of the obstacles, and what a trade does at the edges. */
public final class TradeBoundsTest {
    private static final int NONE = WishMarket.NONE;
    private static final String FOUR = ";wish q 1 0 with 0;wish r 1 0 with 0;wish s 1 0 with 0;wish t 1 0 with 0";

    public static void main(String[] args) {
        buyInNoStall();
        buyCoins();
        buyFourth();
        buyEffects();
        sellNobodys();
        sellCapacity();
        sellCash();
        sellEffects();
        returnNotBought();
        returnRegret();
        returnCapacity();
        returnCash();
        returnEffects();
        grantNobodys();
        grantBirthday();
        grantCandles();
        grantEffects();
        Checks.end();
    }

    /** The obstacle is told, and the call that it stands against is refused. */
    private static void buy(String setup, int person, int wish, int obstacle) {
        WishMarket x = Checks.market(setup);
        Checks.due(x.buyObstacle(person, wish), obstacle);
        refusedIf(obstacle, x, y -> y.buy(person, wish));
    }

    private static void sell(String setup, int wish, int stall, int obstacle) {
        WishMarket x = Checks.market(setup);
        Checks.due(x.sellObstacle(wish, stall), obstacle);
        refusedIf(obstacle, x, y -> y.sell(wish, stall));
    }

    private static void giveBack(String setup, int wish, int obstacle) {
        WishMarket x = Checks.market(setup);
        Checks.due(x.returnObstacle(wish), obstacle);
        refusedIf(obstacle, x, y -> y.returnWish(wish));
    }

    private static void grant(String setup, int wish, int obstacle) {
        WishMarket x = Checks.market(setup);
        Checks.due(x.grantObstacle(wish), obstacle);
        refusedIf(obstacle, x, y -> y.grant(wish));
    }

    private static void refusedIf(int obstacle, WishMarket x, Checks.CallOn call) {
        if (obstacle == 0) {
            Checks.answered(() -> call.answer(x));
            Checks.due(x.undoCount(), 1);
        } else {
            String before = Picture.of(x);
            Checks.thrown(Checks.ARGUMENT, () -> call.answer(x));
            Checks.due(Picture.of(x), before);
        }
    }

    private static void buyInNoStall() {
        Checks.sentence("To buy a wish: 1 the wish is in no stall");
        String h = "market 4;stall 8 99 0 0;person a 0 0 0;person b 99 0 0;wish w 9 0 ";
        // Also for a person without coins who owns four wishes: the first obstacle is told.
        for (String elsewhere : new String[] {"with 1", "with 1;grant 0", "at 0;buy 1 0", "at 0 worn 9;advance 4",
            "with 1 worn 9;advance 4"}) {
            buy(h + elsewhere, 1, 0, 1);
            buy(h + elsewhere, 0, 0, 1);
            buy(h + elsewhere + FOUR, 0, 0, 1);
        }
        buy(h + "with 0", 0, 0, 1);
        buy(h + "at 0", 1, 0, 0);
        buy(h + "with 1;sell 0 0", 1, 0, 0);
        buy(h + "at 0;buy 1 0;return 0", 1, 0, 0);
    }

    private static void buyCoins() {
        Checks.sentence("2 the person has fewer coins than the price");
        // The least price, the greatest, and one between.
        String[] stalls = {"1 0 0", "0 50 100", "0 0 0"};
        int[] bases = {1, 99, 50};
        int[] prices = {1, 198, 25};
        for (int i = 0; i < 3; i++) {
            String h = "market 4;stall 8 " + stalls[i] + ";person a # 0 0;wish w " + bases[i] + " 0 at 0";
            String enough = h.replace("#", String.valueOf(prices[i]));
            String oneLess = h.replace("#", String.valueOf(prices[i] - 1));
            buy(oneLess, 0, 0, 2);
            buy(enough, 0, 0, 0);
            // Too few coins are told before four wishes.
            buy(oneLess + FOUR, 0, 0, 2);
            buy(enough + FOUR, 0, 0, 3);
            WishMarket x = Checks.market(enough);
            Checks.due(x.buy(0, 0), prices[i]);
            Checks.due(x.coins(0), 0);
        }
    }

    private static void buyFourth() {
        Checks.sentence("3 the person owns 4 wishes.");
        String three = "market 4;stall 8 99 0 0;person a 99 0 0;person b 0 0 0;wish w 9 0 at 0;wish q 1 0 with 0;"
                + "wish r 1 0 with 0;wish s 1 0 with 0";
        buy(three, 0, 0, 0);
        buy(three + ";wish t 1 0 with 0", 0, 0, 3);
        buy(three + ";wish t 1 0 at 0;buy 0 4", 0, 0, 3);
        buy(three + ";wish t 1 0 with 1;gift 4 0", 0, 0, 3);
        buy(three + ";wish t 1 0 with 0;gift 4 1", 0, 0, 0);
        buy(three + ";wish t 1 0 with 1;swap 4 3", 0, 0, 0);
        buy(three + ";wish t 1 0 with 0;grant 4", 0, 0, 0);
    }

    private static void buyEffects() {
        Checks.sentence("the stars of the stall increase by 1, but not above 50.");
        for (int stars : new int[] {0, 1, 48, 49, 50}) {
            WishMarket x = Checks.market("market 4;stall 8 7 " + stars + " 0;stall 8 0 9 0;person a 99 0 0;"
                    + "wish w 90 0 at 0;wish v 90 0 at 0;advance 2");
            int price = 90 * (50 + stars) / 100;
            Checks.due(x.buy(0, 0), price);
            Checks.due(x.stars(0), Math.min(50, stars + 1));
            Checks.due(x.stars(1), 9);
            Checks.sentence("The person pays the price to the stall and owns the wish;"
                    + " the purchase day, the purchase price and the stall are remembered");
            Checks.due(x.coins(0), 99 - price);
            Checks.due(x.cash(0), 7 + price);
            Checks.due(x.owner(0), 0);
            Checks.due(x.purchaseDay(0), 2);
            // The price that was paid, not the one that more stars ask now.
            Checks.due(x.purchasePrice(0), price);
            Checks.due(x.price(1), 90 * (50 + Math.min(50, stars + 1)) / 100);
        }
    }

    private static void sellNobodys() {
        Checks.sentence("To sell a wish to a stall: 1 nobody owns the wish");
        String h = "market 4;stall 1 0 50 0;stall 8 99 50 0;person a 99 0 0;wish full 1 0 at 0;wish w 9 0 ";
        // Also if the stall is full and without cash: the first obstacle is told.
        for (String elsewhere : new String[] {"at 1", "with 0;grant 1", "with 0 worn 9;advance 4", "with 0;sell 1 1",
            "at 1;buy 0 1;return 1"}) {
            sell(h + elsewhere, 1, 0, 1);
            sell(h + elsewhere, 1, 1, 1);
        }
        sell(h + "with 0", 1, 1, 0);
        sell(h + "at 1;buy 0 1", 1, 1, 0);
        sell(h + "with 0", 0, 0, 1);
    }

    private static void sellCapacity() {
        Checks.sentence("2 the stall contains as many wishes as its capacity");
        String h = "market 4;stall 2 99 50 0;person a 99 0 0;wish w 9 0 with 0;wish b 9 0 at 0";
        sell(h, 0, 0, 0);
        sell(h + ";wish c 9 0 at 0", 0, 0, 2);
        sell(h + ";wish c 9 0 at 0;buy 0 2", 0, 0, 0);
        sell(h + ";wish c 9 0 at 0 worn 9;advance 4", 0, 0, 0);
        // A full stall without cash is full in the first place.
        sell(h.replace("99 50", "0 50") + ";wish c 9 0 at 0", 0, 0, 2);
    }

    private static void sellCash() {
        Checks.sentence("3 the cash of the stall is less than the offer.");
        String h = "market 4;stall 1 # 50 0;person a 0 0 0;wish w 99 0 with 0;wish v 1 0 with 0";
        sell(h.replace("#", "98"), 0, 0, 3);
        sell(h.replace("#", "99"), 0, 0, 0);
        sell(h.replace("#", "100"), 0, 0, 0);
        sell(h.replace("#", "0"), 1, 0, 3);
        sell(h.replace("#", "1"), 1, 0, 0);
        // An offer of 0 needs no cash.
        sell(h.replace("# 50", "0 49"), 1, 0, 0);
        WishMarket x = Checks.market(h.replace("#", "99"));
        Checks.due(x.sell(0, 0), 99);
        Checks.due(x.cash(0), 0);
        Checks.due(x.coins(0), 99);
    }

    private static void sellEffects() {
        Checks.sentence("The stall pays the offer to the owner, the wish is in the stall, and its purchase is "
                + "forgotten.");
        for (int stars : new int[] {0, 50}) {
            WishMarket x = Checks.market("market 4;stall 8 99 0 0;stall 8 99 " + stars + " 0;person a 99 0 0;"
                    + "wish w 90 0 at 0;buy 0 0");
            Checks.due(x.sell(0, 1), stars == 0 ? 45 : 90);
            Checks.due(x.stars(0), 1);
            Checks.due(x.stars(1), stars);
            Checks.due(x.stallOf(0), 1);
            Checks.due(x.owner(0), NONE);
            Checks.due(x.purchaseDay(0), NONE);
            Checks.due(x.purchasePrice(0), NONE);
            Checks.due(x.refund(0), NONE);
            Checks.due(x.returnObstacle(0), 1);
        }
    }

    private static void returnNotBought() {
        Checks.sentence("To return a wish: 1 nobody owns the wish, or its owner did not buy it");
        String h = "market 9;regret 0;stall 1 99 50 0;person a 99 0 0;person b 99 0 0;wish w 9 0 ";
        String[] without = {"at 0", "with 0", "at 0;buy 0 0;sell 0 0", "at 0;buy 0 0;return 0", "at 0;buy 0 0;gift 0 1",
            "at 0;buy 0 0;gift 0 1;gift 0 0", "at 0;buy 0 0;wish v 9 0 with 1;swap 0 1",
            "at 0;buy 0 0;wish v 9 0 with 0;swap 0 1", "at 0;buy 0 0;wish v 9 0 with 1;swap 1 0",
            "at 0;buy 0 0;grant 0", "at 0 worn 9;buy 0 0;advance 9", "with 0 worn 9;advance 9"};
        for (String text : without) {
            giveBack(h + text, 0, 1);
            // Also late, and if there is no place: the first obstacle is told.
            giveBack(h + text + ";advance 2", 0, 1);
        }
        for (String text : new String[] {"with 0", "at 0;buy 0 0;gift 0 1"}) {
            giveBack(h + text + ";wish f 9 0 at 0;advance 2", 0, 1);
        }
        giveBack(h + "at 0;buy 0 0", 0, 0);
        giveBack(h + "with 1;sell 0 0;buy 0 0", 0, 0);
    }

    private static void returnRegret() {
        Checks.sentence("2 the current day minus the purchase day is greater than the number of regret days");
        for (int bought : new int[] {0, 7}) {
            for (int regret : new int[] {0, 1, 3, 29, 30}) {
                String h = "market 60;regret " + regret + ";stall 1 99 0 0;person a 99 0 0;wish w 9 0 at 0;"
                        + "wish v 9 0 with 0" + (bought == 0 ? "" : ";advance " + bought) + ";buy 0 0";
                String last = regret == 0 ? "" : ";advance " + regret;
                giveBack(h + last, 0, 0);
                giveBack(h + ";advance " + (regret + 1), 0, 2);
                // Too late is told before a full stall.
                giveBack(h + ";advance " + (regret + 1) + ";sell 1 0", 0, 2);
                giveBack(h + last + ";sell 1 0", 0, 3);
            }
        }
        // Too late is told before too little cash, and three days are the ordinary number.
        String poor = "market 60;stall 8 0 50 0;person a 99 0 0;wish w 20 0 at 0;wish v 3 0 with 0;buy 0 0;sell 1 0";
        giveBack(poor + ";advance 3", 0, 4);
        giveBack(poor + ";advance 4", 0, 2);
    }

    private static void returnCapacity() {
        Checks.sentence("3 the stall where it was bought contains as many wishes as its capacity");
        String h = "market 9;stall 2 0 50 0;stall 1 0 0 0;person a 99 0 0;wish w 20 0 at 0;wish v 3 0 with 0;"
                + "wish u 9 0 at 0;buy 0 0";
        giveBack(h, 0, 0);
        // Only 17 coins are left there: a full stall is told before too little cash.
        giveBack(h + ";sell 1 0", 0, 3);
        giveBack(h + ";sell 1 0;buy 0 2", 0, 0);
        // Another full stall is no obstacle.
        giveBack(h + ";wish t 9 0 at 1", 0, 0);
    }

    private static void returnCash() {
        Checks.sentence("4 the cash of this stall is less than the refund.");
        String h = "market 9;stall 8 0 50 0;stall 8 99 0 0;person a 99 0 0;wish w 20 0 at 0;wish v # 0 with 0;buy 0 0;"
                + "sell 1 0";
        giveBack(h.replace("#", "3"), 0, 4);
        giveBack(h.replace("#", "2"), 0, 0);
        giveBack(h.replace("#", "1"), 0, 0);
        giveBack("market 9;fee 0" + h.substring(8).replace("#", "1"), 0, 4);
        WishMarket x = Checks.market(h.replace("#", "2"));
        Checks.due(x.returnWish(0), 18);
        Checks.due(x.cash(0), 0);
        // The fee is the one of the setup, on whatever day the wish was bought.
        for (int day = 1; day < 40; day += 6) {
            WishMarket z = Checks.market("market 60;stall 1 0 50 0;person a 99 0 0;wish w 20 0 at 0;fee 35;advance "
                    + day + ";buy 0 0;advance 3");
            Checks.due(z.refund(0), 13);
            Checks.due(z.returnWish(0), 13);
            Checks.due(z.cash(0), 7);
        }
        // A refund of 0 needs no cash.
        WishMarket y = Checks.market("market 9;stall 8 0 50 0;person a 9 0 0;wish w 1 0 at 0;wish v 1 0 with 0;"
                + "buy 0 0;sell 1 0");
        Checks.due(y.cash(0), 0);
        Checks.due(y.returnWish(0), 0);
    }

    private static void returnEffects() {
        Checks.sentence("its purchase is forgotten, and the stars of the stall decrease by 2, but not below 0.");
        for (int stars = 0; stars <= 50; stars++) {
            // An auction leaves the stars, so the stall has them all when the wish comes back.
            WishMarket x = Checks.market("market 9;stall 8 9 " + stars + " 0;stall 8 0 7 0;person a 40 0 0;"
                    + "wish w 20 0 at 0;auction 0;advance 1");
            Checks.due(x.stars(0), stars);
            Checks.due(x.purchasePrice(0), 20);
            Checks.due(x.returnWish(0), 18);
            Checks.due(x.stars(0), Math.max(0, stars - 2));
            Checks.due(x.stars(1), 7);
            Checks.due(x.stallOf(0), 0);
            Checks.due(x.purchaseDay(0), NONE);
            Checks.due(x.purchasePrice(0), NONE);
            Checks.due(x.cash(0), 9 + 20 - 18);
            Checks.due(x.coins(0), 40 - 20 + 18);
        }
    }

    private static void grantNobodys() {
        Checks.sentence("To grant a wish: 1 nobody owns the wish");
        String h = "market 4;stall 8 99 0 0;person a 99 0 0;wish w 9 # ";
        for (String elsewhere : new String[] {"at 0", "with 0;sell 0 0", "at 0;buy 0 0;return 0",
            "with 0 worn 9;advance 4"}) {
            grant(h.replace("#", "0") + elsewhere, 0, 1);
            // Also on another day and with too few candles.
            grant(h.replace("#", "99") + elsewhere + ";advance 1", 0, 1);
        }
        grant(h.replace("#", "0") + "with 0;grant 0", 0, 1);
        grant(h.replace("#", "0") + "with 0", 0, 0);
        grant(h.replace("#", "0") + "at 0;buy 0 0", 0, 0);
    }

    private static void grantBirthday() {
        Checks.sentence("2 the day of the year is not the birthday of its owner");
        for (int birthday = 0; birthday < 4; birthday++) {
            for (int day = 0; day < 9; day++) {
                String h = "market 4;stall 8 99 0 0;person a 99 " + birthday + " 0;person b 99 " + (3 - birthday)
                        + " 0;wish w 9 # with 0" + (day == 0 ? "" : ";advance " + day);
                boolean today = day % 4 == birthday;
                grant(h.replace("#", "0"), 0, today ? 0 : 2);
                // Another day is told before too few candles.
                grant(h.replace("#", "99"), 0, today ? 3 : 2);
            }
        }
        // It is the birthday of the owner that counts, whoever bought the wish first.
        String two = "market 4;stall 8 99 0 0;person a 99 0 0;person b 99 1 0;wish w 9 0 at 0;buy 0 0";
        grant(two, 0, 0);
        grant(two + ";gift 0 1", 0, 2);
        grant(two + ";gift 0 1;advance 1", 0, 0);
    }

    private static void grantCandles() {
        Checks.sentence("3 its owner has fewer candles than the strength of the wish.");
        for (int candles : new int[] {0, 1, 50, 98, 99}) {
            String h = "market 4;stall 8 99 0 0;person a 99 0 " + candles + ";wish w 9 # with 0";
            grant(h.replace("#", String.valueOf(candles)), 0, 0);
            grant(h.replace("#", "0"), 0, 0);
            if (candles < 99) {
                grant(h.replace("#", String.valueOf(candles + 1)), 0, 3);
                // One birthday brings one candle.
                grant(h.replace("#", String.valueOf(candles + 1)) + ";advance 4", 0, 0);
            }
        }
    }

    private static void grantEffects() {
        Checks.sentence("The value of the wish is added to the happiness of the owner, and the wish is granted;"
                + " nobody owns it any more.");
        WishMarket x = Checks.market("market 4;stall 8 99 0 0;person a 99 0 0;person b 9 0 0;wish u 99 0 with 0;"
                + "wish v 1 0 with 0 worn 9;wish w 19 0 with 0 worn 5");
        Checks.due(x.grant(1), 0);
        Checks.due(x.isGranted(1), true);
        Checks.due(x.grant(0), 99);
        Checks.due(x.grant(2), 108);
        Checks.due(x.happiness(0), 108);
        Checks.due(x.happiness(1), 0);
        Checks.due(x.ownedCount(0), 0);
        Checks.due(x.candles(0), 0);
        Checks.due(x.coins(0), 99);
        for (int w = 0; w < 3; w++) {
            Checks.due(x.owner(w), NONE);
            Checks.due(x.stallOf(w), NONE);
        }
        Checks.due(x.grantedCount(), 3);
    }
}
