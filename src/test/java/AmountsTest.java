/** Section 2: value, price, offer and refund of every base value and every wear, at many stars, margins and fees. */
public final class AmountsTest {
    private static final int BASES = 99;
    private static final int WEARS = 10;

    public static void main(String[] args) {
        for (int first = 0; first < BASES * WEARS; first += 16) {
            for (int stars : new int[] {0, 1, 13, 37, 49, 50}) {
                valuesAndPrices(first, stars);
            }
        }
        for (int first = 0; first < BASES * WEARS; first += 12) {
            offers(first, new int[] {0, 1, 24, 25, 26});
            offers(first, new int[] {7, 33, 48, 49, 50});
        }
        for (int fee = 0; fee <= 50; fee++) {
            refunds(fee);
        }
        Checks.end();
    }

    private static int base(int number) {
        return number / WEARS + 1;
    }

    private static int wear(int number) {
        return number % WEARS;
    }

    private static int end(int first, int count) {
        return Math.min(first + count, BASES * WEARS);
    }

    private static String wish(int index, int number, String place) {
        return ";wish " + (char) ('a' + index) + " " + base(number) + " 0 " + place + " worn " + wear(number);
    }

    /** The sixteen wishes of these numbers, eight in each of two stalls. */
    private static void valuesAndPrices(int first, int stars) {
        String stall = ";stall 8 0 " + stars + " 0";
        StringBuilder text = new StringBuilder("market 4" + stall + stall + ";person a 0 0 0");
        int end = end(first, 16);
        for (int n = first; n < end; n++) {
            text.append(wish(n - first, n, "at " + (n - first) / 8));
        }
        WishMarket x = Checks.market(text.toString());
        Checks.sentence("The value of a wish is its base value times 10 minus its wear (the subtraction comes first), "
                + "divided by 10 and rounded down.");
        for (int n = first; n < end; n++) {
            Checks.due(x.value(n - first), base(n) * (10 - wear(n)) / 10);
        }
        Checks.sentence("The price of a wish in a stall is the base value, times 10 minus the wear, times 100 plus "
                + "the margin, times 50 plus the stars (additions and subtractions come first), divided by 100000 and "
                + "rounded down; it is 1 if the result is 0.");
        for (int margin = 0; margin <= 100; margin += stars % 2 == 0 ? 10 : 9) {
            x.setMargin(0, margin);
            x.setMargin(1, margin);
            for (int n = first; n < end; n++) {
                int due = base(n) * (10 - wear(n)) * (100 + margin) * (50 + stars) / 100000;
                Checks.due(x.price(n - first), due == 0 ? 1 : due);
            }
        }
    }

    /** The twelve wishes of these numbers, four owned by each of three persons. */
    private static void offers(int first, int[] stars) {
        StringBuilder text = new StringBuilder("market 4");
        for (int s = 0; s < stars.length; s++) {
            text.append(";stall 1 0 ").append(stars[s]).append(" 90");
        }
        text.append(Setups.persons(3));
        int end = end(first, 12);
        for (int n = first; n < end; n++) {
            text.append(wish(n - first, n, "with " + (n - first) / 4));
        }
        WishMarket x = Checks.market(text.toString());
        Checks.sentence("The offer of a stall for a wish is the base value, times 10 minus the wear, times 50 plus "
                + "the stars, divided by 1000 and rounded down.");
        for (int n = first; n < end; n++) {
            for (int s = 0; s < stars.length; s++) {
                Checks.due(x.offer(n - first, s), base(n) * (10 - wear(n)) * (50 + stars[s]) / 1000);
            }
        }
    }

    /** At 50 stars and without a margin a new wish costs its base value, and with a margin of 100 twice as much. */
    private static void refunds(int fee) {
        Checks.sentence("The refund for a wish is its purchase price times 100 minus the return fee, divided by 100 "
                + "and rounded down.");
        for (int first = 1; first <= BASES; first += 11) {
            WishMarket x = Checks.market("market 4;stall 8 0 50 0;stall 8 0 50 100;person a 999 0 0;fee " + fee
                    + ";wish p " + first + " 0 at 0;wish q " + (first + 5) + " 0 at 0;wish r " + (first + 10)
                    + " 0 at 0;wish s " + first + " 0 at 1");
            int[] prices = {first, first + 5, first + 10, 2 * first};
            for (int w = 0; w < 4; w++) {
                Checks.due(x.buy(0, w), prices[w]);
                Checks.due(x.refund(w), prices[w] * (100 - fee) / 100);
            }
            int coins = x.coins(0);
            Checks.due(x.returnWish(1), prices[1] * (100 - fee) / 100);
            Checks.due(x.coins(0), coins + prices[1] * (100 - fee) / 100);
        }
    }
}
