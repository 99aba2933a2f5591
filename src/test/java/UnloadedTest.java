/** Section 7: without a setup nearly every call throws IllegalStateException, before any other exception. */
public final class UnloadedTest {
    public static void main(String[] args) {
        WishMarket fresh = new WishMarket();
        everyCall(fresh);
        WishMarket failed = new WishMarket();
        Checks.thrown(Checks.ARGUMENT, () -> Checks.load(failed, "market 9;stall 1 1 1 1;person a 1 1 1;wish a 1"));
        everyCall(failed);
        Checks.end();
    }

    private static void everyCall(WishMarket x) {
        accounts(x);
        for (int i : new int[] {0, -1, 9, Integer.MIN_VALUE, Integer.MAX_VALUE}) {
            persons(x, i);
            stalls(x, i);
            wishes(x, i);
            changes(x, i);
        }
        Checks.due(x.undoCount(), 0);
        Checks.due(x.bufferLength(), 0);
        Checks.thrown(Checks.STATE, () -> x.undo());
        Checks.thrown(Checks.STATE, () -> x.restoreState(0));
        Checks.thrown(Checks.STATE, () -> x.restoreState(1));
        Checks.thrown(Checks.INDEX, () -> x.restoreState(-1));
        Checks.thrown(Checks.INDEX, () -> x.restoreState(2));
        Checks.thrown(Checks.INDEX, () -> x.outputByte(0));
    }

    private static void accounts(WishMarket x) {
        Checks.thrown(Checks.STATE, () -> x.day());
        Checks.thrown(Checks.STATE, () -> x.yearLength());
        Checks.thrown(Checks.STATE, () -> x.dayOfYear());
        Checks.thrown(Checks.STATE, () -> x.grantedCount());
        Checks.thrown(Checks.STATE, () -> x.fadedCount());
        Checks.thrown(Checks.STATE, () -> x.imbalance());
        Checks.thrown(Checks.STATE, () -> x.averageWear());
        Checks.thrown(Checks.STATE, () -> x.averageStars());
        Checks.thrown(Checks.STATE, () -> x.personCount());
        Checks.thrown(Checks.STATE, () -> x.stallCount());
    }

    private static void persons(WishMarket x, int i) {
        Checks.thrown(Checks.STATE, () -> x.personLetter(i, i));
        Checks.thrown(Checks.STATE, () -> x.coins(i));
        Checks.thrown(Checks.STATE, () -> x.birthday(i));
        Checks.thrown(Checks.STATE, () -> x.candles(i));
        Checks.thrown(Checks.STATE, () -> x.happiness(i));
        Checks.thrown(Checks.STATE, () -> x.ownedCount(i));
        Checks.thrown(Checks.STATE, () -> x.shoppingLimit(i));
        Checks.thrown(Checks.STATE, () -> x.daysUntilBirthday(i));
        Checks.thrown(Checks.STATE, () -> x.cheapestWish(i));
        Checks.thrown(Checks.STATE, () -> x.bestGrant(i));
        Checks.thrown(Checks.STATE, () -> x.coinsAfter(i, i));
        Checks.thrown(Checks.STATE, () -> x.writePerson(i));
    }

    private static void stalls(WishMarket x, int i) {
        Checks.thrown(Checks.STATE, () -> x.cash(i));
        Checks.thrown(Checks.STATE, () -> x.stars(i));
        Checks.thrown(Checks.STATE, () -> x.margin(i));
        Checks.thrown(Checks.STATE, () -> x.stockCount(i));
        Checks.thrown(Checks.STATE, () -> x.writeStall(i));
    }

    private static void wishes(WishMarket x, int i) {
        Checks.thrown(Checks.STATE, () -> x.wishLetter(i, i));
        Checks.thrown(Checks.STATE, () -> x.baseValue(i));
        Checks.thrown(Checks.STATE, () -> x.strength(i));
        Checks.thrown(Checks.STATE, () -> x.wear(i));
        Checks.thrown(Checks.STATE, () -> x.value(i));
        Checks.thrown(Checks.STATE, () -> x.owner(i));
        Checks.thrown(Checks.STATE, () -> x.stallOf(i));
        Checks.thrown(Checks.STATE, () -> x.isGranted(i));
        Checks.thrown(Checks.STATE, () -> x.purchaseDay(i));
        Checks.thrown(Checks.STATE, () -> x.purchasePrice(i));
        Checks.thrown(Checks.STATE, () -> x.price(i));
        Checks.thrown(Checks.STATE, () -> x.offer(i, i));
        Checks.thrown(Checks.STATE, () -> x.refund(i));
        Checks.thrown(Checks.STATE, () -> x.buyObstacle(i, i));
        Checks.thrown(Checks.STATE, () -> x.sellObstacle(i, i));
        Checks.thrown(Checks.STATE, () -> x.returnObstacle(i));
        Checks.thrown(Checks.STATE, () -> x.grantObstacle(i));
        Checks.thrown(Checks.STATE, () -> x.bestOffer(i));
        Checks.thrown(Checks.STATE, () -> x.valueAfter(i, i));
        Checks.thrown(Checks.STATE, () -> x.daysUntilFaded(i));
    }

    private static void changes(WishMarket x, int i) {
        Checks.thrown(Checks.STATE, () -> x.advance(i));
        Checks.thrown(Checks.STATE, () -> x.buy(i, i));
        Checks.thrown(Checks.STATE, () -> x.sell(i, i));
        Checks.thrown(Checks.STATE, () -> x.returnWish(i));
        Checks.thrown(Checks.STATE, () -> x.grant(i));
        Checks.thrown(Checks.STATE, () -> x.setLimit(i, i));
        Checks.thrown(Checks.STATE, () -> x.setMargin(i, i));
        Checks.thrown(Checks.STATE, () -> x.saveState(i));
    }
}
