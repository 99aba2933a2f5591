/** "Throws IndexOutOfBoundsException if there is no such person", stall, wish, byte or slot: each call, each number. */
public final class IndexTest {
    private static final int MIN = Integer.MIN_VALUE;
    private static final int MAX = Integer.MAX_VALUE;

    /** Calls that answer for every person, stall or wish that there is. */
    private static final Checks.CallAt[] OF_PERSON = {(x, i) -> x.personLetter(i, 0), (x, i) -> x.personLetter(i, -1),
        (x, i) -> x.coins(i), (x, i) -> x.birthday(i), (x, i) -> x.candles(i), (x, i) -> x.happiness(i),
        (x, i) -> x.ownedCount(i), (x, i) -> x.shoppingLimit(i), (x, i) -> x.daysUntilBirthday(i),
        (x, i) -> x.cheapestWish(i), (x, i) -> x.bestGrant(i), (x, i) -> x.coinsAfter(i, 0),
        (x, i) -> x.coinsAfter(i, 300), (x, i) -> x.writePerson(i), (x, i) -> x.setLimit(i, 0),
        (x, i) -> x.setLimit(i, 200)};
    private static final Checks.CallAt[] OF_STALL = {(x, i) -> x.cash(i), (x, i) -> x.stars(i), (x, i) -> x.margin(i),
        (x, i) -> x.stockCount(i), (x, i) -> x.writeStall(i), (x, i) -> x.setMargin(i, 0),
        (x, i) -> x.setMargin(i, 100)};
    private static final Checks.CallAt[] OF_WISH = {(x, i) -> x.wishLetter(i, 0), (x, i) -> x.wishLetter(i, -1),
        (x, i) -> x.baseValue(i), (x, i) -> x.strength(i), (x, i) -> x.wear(i), (x, i) -> x.value(i),
        (x, i) -> x.owner(i), (x, i) -> x.stallOf(i), (x, i) -> x.isGranted(i), (x, i) -> x.purchaseDay(i),
        (x, i) -> x.purchasePrice(i), (x, i) -> x.price(i), (x, i) -> x.offer(i, 0), (x, i) -> x.refund(i),
        (x, i) -> x.buyObstacle(0, i), (x, i) -> x.sellObstacle(i, 0), (x, i) -> x.returnObstacle(i),
        (x, i) -> x.grantObstacle(i), (x, i) -> x.bestOffer(i), (x, i) -> x.valueAfter(i, 0),
        (x, i) -> x.valueAfter(i, 300), (x, i) -> x.daysUntilFaded(i)};

    /** Calls of two indices, or with another exception behind this one: only a wrong index is tried. */
    private static final Checks.CallAt[] WRONG_PERSON = {(x, i) -> x.buyObstacle(i, 0), (x, i) -> x.buyObstacle(i, i),
        (x, i) -> x.buyObstacle(i, MAX), (x, i) -> x.buy(i, 0), (x, i) -> x.buy(i, i), (x, i) -> x.buy(i, MIN),
        (x, i) -> x.coinsAfter(i, -1), (x, i) -> x.coinsAfter(i, 301), (x, i) -> x.setLimit(i, -1),
        (x, i) -> x.setLimit(i, 201)};
    private static final Checks.CallAt[] WRONG_STALL = {(x, i) -> x.offer(0, i), (x, i) -> x.sellObstacle(0, i),
        (x, i) -> x.sell(0, i), (x, i) -> x.setMargin(i, -1), (x, i) -> x.setMargin(i, 101)};
    private static final Checks.CallAt[] WRONG_WISH = {(x, i) -> x.offer(i, i), (x, i) -> x.offer(i, MAX),
        (x, i) -> x.buyObstacle(MIN, i), (x, i) -> x.sellObstacle(i, i), (x, i) -> x.sellObstacle(i, MAX),
        (x, i) -> x.buy(0, i), (x, i) -> x.sell(i, 0), (x, i) -> x.sell(i, MIN), (x, i) -> x.returnWish(i),
        (x, i) -> x.grant(i), (x, i) -> x.valueAfter(i, -1), (x, i) -> x.valueAfter(i, 301)};

    public static void main(String[] args) {
        persons();
        stalls();
        wishes();
        letters();
        bytes();
        slots();
        Checks.end();
    }

    private static void answers(WishMarket x, Checks.CallAt[] calls, int count) {
        for (Checks.CallAt call : calls) {
            Checks.answered(() -> call.answer(x, 0));
            Checks.answered(() -> call.answer(x, count - 1));
        }
    }

    private static void throwsBeyond(WishMarket x, Checks.CallAt[] calls, int count) {
        for (Checks.CallAt call : calls) {
            for (int wrong : new int[] {-1, count, count + 1, MIN, MAX}) {
                Checks.thrown(Checks.INDEX, () -> call.answer(x, wrong));
            }
        }
    }

    private static void persons() {
        Checks.sentence("Throws `IndexOutOfBoundsException` if there is no such person");
        for (int count = 1; count <= 6; count++) {
            WishMarket x = Checks.market("market 9" + Setups.stalls(1) + Setups.persons(count) + Setups.wishes(1));
            answers(x, OF_PERSON, count);
            Checks.due(x.buyObstacle(count - 1, 0), 0);
            Checks.due(x.buy(count - 1, 0), 4);
            throwsBeyond(x, OF_PERSON, count);
            throwsBeyond(x, WRONG_PERSON, count);
        }
    }

    private static void stalls() {
        Checks.sentence("Throws `IndexOutOfBoundsException` if there is no such stall");
        for (int count = 1; count <= 5; count++) {
            WishMarket x = Checks.market("market 9" + Setups.stalls(count) + Setups.persons(1) + ";wish w 9 0 with 0");
            answers(x, OF_STALL, count);
            Checks.due(x.offer(0, count - 1), 4);
            Checks.due(x.sellObstacle(0, count - 1), 0);
            throwsBeyond(x, OF_STALL, count);
            throwsBeyond(x, WRONG_STALL, count);
            Checks.due(x.sell(0, count - 1), 4);
            throwsBeyond(x, WRONG_STALL, count);
        }
    }

    private static void wishes() {
        Checks.sentence("Throws `IndexOutOfBoundsException` if there is no such wish");
        for (int count = 0; count <= 16; count++) {
            WishMarket x = Checks.market("market 9" + Setups.stalls(2) + Setups.persons(1) + Setups.wishes(count));
            if (count > 0) {
                answers(x, OF_WISH, count);
                Checks.due(x.buy(0, count - 1), 4);
                Checks.due(x.returnWish(count - 1), 3);
                Checks.due(x.buy(0, count - 1), 4);
                Checks.due(x.grant(count - 1), 9);
            }
            throwsBeyond(x, OF_WISH, count);
            throwsBeyond(x, WRONG_WISH, count);
        }
    }

    private static void letters() {
        Checks.sentence("NONE if index is negative or not less than the length of the name.");
        WishMarket x = Checks.market("market 9;stall 8 0 0 0;person z 0 0 0;person abcdef 0 0 0;wish y 1 0 at 0;"
                + "wish uvwxyz 1 0 at 0");
        String[] persons = {"z", "abcdef"};
        String[] wishes = {"y", "uvwxyz"};
        for (int i = 0; i < 2; i++) {
            for (int index : new int[] {0, 1, 5, 6, 7, 31, 32, 64, -1, -6, MIN, MIN + 1, MAX}) {
                boolean inside = index >= 0 && index < persons[i].length();
                Checks.due(x.personLetter(i, index), inside ? persons[i].charAt(index) : WishMarket.NONE);
                Checks.due(x.wishLetter(i, index), inside ? wishes[i].charAt(index) : WishMarket.NONE);
            }
        }
    }

    private static void bytes() {
        Checks.sentence("Throws `IndexOutOfBoundsException` if there is no such byte; always, before the first output");
        WishMarket x = new WishMarket();
        Checks.CallAt[] call = {(y, i) -> y.outputByte(i)};
        throwsBeyond(x, call, 0);
        Checks.load(x, "market 9;stall 8 0 0 0;stall 1 0 50 0;person abcdef 0 0 0;wish long 9 0 at 1");
        throwsBeyond(x, call, 0);
        Checks.due(x.writeStall(0), 1);
        Checks.due(x.outputByte(0), (int) '-');
        throwsBeyond(x, call, 1);
        Checks.due(x.writePerson(0), 8);
        Checks.due(x.outputByte(7), (int) '0');
        throwsBeyond(x, call, 8);
        Checks.due(x.writeStall(1), 6);
        Checks.due(x.outputByte(5), (int) '9');
        throwsBeyond(x, call, 6);
        Checks.due(x.writeStall(0), 1);
        throwsBeyond(x, call, 1);
    }

    private static void slots() {
        Checks.sentence("Throws `IndexOutOfBoundsException` if there is no such slot");
        WishMarket x = new WishMarket();
        Checks.CallAt[] restore = {(y, i) -> y.restoreState(i)};
        Checks.CallAt[] both = {(y, i) -> y.restoreState(i), (y, i) -> y.saveState(i)};
        throwsBeyond(x, restore, 2);
        Checks.thrown(Checks.STATE, () -> x.restoreState(0));
        Checks.thrown(Checks.STATE, () -> x.restoreState(1));
        Checks.load(x, "market 9;stall 8 0 0 0;person a 0 0 0");
        throwsBeyond(x, both, 2);
        Checks.due(x.saveState(0), 0);
        Checks.due(x.saveState(1), 0);
        throwsBeyond(x, both, 2);
    }
}
