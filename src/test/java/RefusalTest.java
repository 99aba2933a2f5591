import java.util.function.Supplier;

/** "A call that throws an exception changes nothing, except as stated for parseSetup." */
public final class RefusalTest {
    private static final int MIN = Integer.MIN_VALUE;
    private static final int MAX = Integer.MAX_VALUE;
    /** Person 1 has few coins; stall 1 is full; wish 1 is too strong for its owner, whose birthday is today. */
    private static final String MARKET = "market 9;stall 3 60 10 20;stall 1 9 0 0;person a 90 0 5 party;"
            + "person b 3 4 9 bargain;wish v 20 0 at 0;wish w 30 9 with 0;wish u 9 0 at 1;limit 0 9;tax 3 10;auction 7";

    public static void main(String[] args) {
        parsing();
        looking();
        buying();
        selling();
        returning();
        granting();
        changing();
        goingBack();
        unloaded();
        firstListed();
        Checks.end();
    }

    /** An object with all that could be lost: an error, bytes in the buffer, output, a history, a saved state. */
    private static WishMarket busy(String items) {
        WishMarket x = Checks.market(MARKET + items);
        x.saveState(1);
        x.setMargin(0, 30);
        x.setLimit(0, 8);
        x.setLimit(1, 1);
        x.writePerson(0);
        Checks.thrown(Checks.ARGUMENT, () -> Checks.load(x, "market 9;fee 51"));
        x.append(0x6d61726b, 0x65742039, 0x3b737461, 0x6c6c2031, 0x20302030);
        return x;
    }

    private static void refused(String items, Class<? extends RuntimeException> want, Checks.CallOn call) {
        Supplier<WishMarket> refusing = () -> {
            WishMarket x = busy(items);
            Checks.thrown(want, () -> call.answer(x));
            Checks.thrown(want, () -> call.answer(x));
            return x;
        };
        Checks.due(Picture.of(refusing.get()), Picture.of(busy(items)));
        Checks.due(Picture.withPast(refusing), Picture.withPast(() -> busy(items)));
    }

    private static void refused(Class<? extends RuntimeException> want, Checks.CallOn call) {
        refused("", want, call);
    }

    private static void parsing() {
        Checks.sentence("checked first; the buffer and the latest parse error stay unchanged");
        for (int length : new int[] {-1, 21, 500, 501, MIN, MAX}) {
            refused(Checks.INDEX, x -> x.parseSetup(length));
        }
        Checks.sentence("if the setup is invalid; the previous simulation stays unchanged");
        String whole = "market 4;stall 8 9 9 9;person z 99 1 1;wish s 9 0 at 0;buy 0 0;limit 0 9;advance 300;";
        for (String text : new String[] {"?", "market 3", "market 9", whole, whole + "advance 0", whole + "person z",
            "market 60;person z 1 1 1;advance 9", "market 60;stall 1 1 1 1;repeat 2(advance 9"}) {
            Supplier<WishMarket> refusing = () -> {
                WishMarket x = busy("");
                // The twenty bytes that stand in the buffer are gone with an invalid setup as well.
                Checks.thrown(Checks.ARGUMENT, () -> x.parseSetup(20));
                Checks.due(x.bufferLength(), 0);
                Checks.thrown(Checks.ARGUMENT, () -> Checks.load(x, text));
                Checks.due(x.bufferLength(), 0);
                return x;
            };
            Checks.due(Picture.withPast(refusing), Picture.withPast(() -> busy("")));
        }
    }

    private static void looking() {
        Checks.sentence("A call that throws an exception changes nothing, except as stated for parseSetup.");
        for (int wrong : new int[] {-1, 2, MIN, MAX}) {
            refused(Checks.INDEX, x -> x.coins(wrong));
            refused(Checks.INDEX, x -> x.cash(wrong));
            refused(Checks.INDEX, x -> x.wear(wrong == 2 ? 3 : wrong));
            refused(Checks.INDEX, x -> x.writePerson(wrong));
            refused(Checks.INDEX, x -> x.writeStall(wrong));
            refused(Checks.INDEX, x -> x.coinsAfter(wrong, 5));
            refused(Checks.INDEX, x -> x.valueAfter(wrong == 2 ? 3 : wrong, 5));
        }
        for (int wrong : new int[] {-1, 301, MIN, MAX}) {
            refused(Checks.ARGUMENT, x -> x.coinsAfter(0, wrong));
            refused(Checks.ARGUMENT, x -> x.valueAfter(0, wrong));
            refused(Checks.INDEX, x -> x.outputByte(wrong));
        }
    }

    /** The obstacle is the one that is meant, and the trade that it stands against is refused. */
    private static void refusedFor(int obstacle, String items, Checks.CallOn told, Checks.CallOn call) {
        Checks.due(told.answer(busy(items)), obstacle);
        refused(items, Checks.ARGUMENT, call);
    }

    private static void buying() {
        Checks.sentence("Throws `IllegalArgumentException` if buyObstacle() is not 0");
        refusedFor(1, "", x -> x.buyObstacle(0, 1), x -> x.buy(0, 1));
        refusedFor(2, "", x -> x.buyObstacle(1, 0), x -> x.buy(1, 0));
        refusedFor(3, ";wish q 1 0 with 0;wish r 1 0 with 0;wish s 1 0 with 0", x -> x.buyObstacle(0, 0),
                x -> x.buy(0, 0));
        refused(Checks.INDEX, x -> x.buy(2, 0));
        refused(Checks.INDEX, x -> x.buy(0, 3));
        refused(Checks.INDEX, x -> x.buy(-1, 0));
        refused(Checks.INDEX, x -> x.buy(0, -1));
    }

    private static void selling() {
        Checks.sentence("Throws `IllegalArgumentException` if sellObstacle() is not 0");
        refusedFor(1, "", x -> x.sellObstacle(0, 0), x -> x.sell(0, 0));
        refusedFor(2, "", x -> x.sellObstacle(1, 1), x -> x.sell(1, 1));
        // The stall has one coin left when it has paid for the first of two.
        String poor = ";wish q 99 0 with 1;wish r 99 0 with 1;sell 3 0";
        refusedFor(3, poor, x -> x.sellObstacle(4, 0), x -> x.sell(4, 0));
        refused(Checks.INDEX, x -> x.sell(3, 0));
        refused(Checks.INDEX, x -> x.sell(1, 2));
        refused(Checks.INDEX, x -> x.sell(-1, 0));
        refused(Checks.INDEX, x -> x.sell(1, -1));
    }

    private static void returning() {
        Checks.sentence("Throws `IllegalArgumentException` if returnObstacle() is not 0");
        refusedFor(1, "", x -> x.returnObstacle(0), x -> x.returnWish(0));
        refusedFor(1, "", x -> x.returnObstacle(1), x -> x.returnWish(1));
        refusedFor(2, ";advance 1;buy 0 0;regret 0;advance 1", x -> x.returnObstacle(0), x -> x.returnWish(0));
        refusedFor(3, ";buy 0 2;wish q 9 0 at 1", x -> x.returnObstacle(2), x -> x.returnWish(2));
        // Two sales leave the stall 9 coins; the refund is 12.
        String poor = ";wish q 99 0 with 1;wish r 20 0 at 0;buy 0 0;buy 0 4;sell 3 0;sell 1 0";
        refusedFor(4, poor, x -> x.returnObstacle(0), x -> x.returnWish(0));
        refused(Checks.INDEX, x -> x.returnWish(3));
        refused(Checks.INDEX, x -> x.returnWish(-1));
    }

    private static void granting() {
        Checks.sentence("Throws `IllegalArgumentException` if grantObstacle() is not 0");
        refusedFor(1, "", x -> x.grantObstacle(0), x -> x.grant(0));
        refusedFor(2, ";gift 1 1", x -> x.grantObstacle(1), x -> x.grant(1));
        refusedFor(3, "", x -> x.grantObstacle(1), x -> x.grant(1));
        refused(Checks.INDEX, x -> x.grant(3));
        refused(Checks.INDEX, x -> x.grant(-1));
    }

    private static void changing() {
        Checks.sentence("Throws `IllegalArgumentException` if days is out of range");
        for (int wrong : new int[] {0, -1, 301, MIN, MAX}) {
            refused(Checks.ARGUMENT, x -> x.advance(wrong));
        }
        Checks.sentence("Throws `IllegalArgumentException` if limit is out of range");
        for (int wrong : new int[] {-1, 201, MIN, MAX}) {
            refused(Checks.ARGUMENT, x -> x.setLimit(0, wrong));
            refused(Checks.INDEX, x -> x.setLimit(2, wrong));
            refused(Checks.INDEX, x -> x.setLimit(-1, 5));
        }
        Checks.sentence("Throws `IllegalArgumentException` if margin is out of range");
        for (int wrong : new int[] {-1, 101, MIN, MAX}) {
            refused(Checks.ARGUMENT, x -> x.setMargin(0, wrong));
            refused(Checks.INDEX, x -> x.setMargin(2, wrong));
            refused(Checks.INDEX, x -> x.setMargin(-1, 5));
        }
    }

    private static void goingBack() {
        Checks.sentence("Throws `IllegalStateException` if no state is saved in the slot");
        refused(Checks.STATE, x -> x.restoreState(0));
        for (int wrong : new int[] {-1, 2, MIN, MAX}) {
            refused(Checks.INDEX, x -> x.restoreState(wrong));
            refused(Checks.INDEX, x -> x.saveState(wrong));
        }
        Checks.sentence("Throws `IllegalStateException` if there is nothing to undo");
        Supplier<WishMarket> undone = () -> {
            WishMarket x = busy("");
            for (int left = 2; left >= 0; left--) {
                Checks.due(x.undo(), left);
            }
            return x;
        };
        WishMarket x = undone.get();
        Checks.thrown(Checks.STATE, () -> x.undo());
        Checks.due(Picture.of(x), Picture.of(undone.get()));
        Checks.due(x.restoreState(1), 0);
    }

    private static void unloaded() {
        Checks.sentence("throw IllegalStateException if no setup has been loaded.");
        Checks.CallOn[] calls = {x -> x.advance(1), x -> x.buy(0, 0), x -> x.sell(0, 0), x -> x.returnWish(0),
            x -> x.grant(0), x -> x.setLimit(0, 0), x -> x.setMargin(0, 0), x -> x.undo(), x -> x.saveState(0),
            x -> x.restoreState(0), x -> x.writeStall(0), x -> x.writePerson(0), x -> x.coinsAfter(0, 1),
            x -> x.valueAfter(0, 1), x -> x.day()};
        for (Checks.CallOn call : calls) {
            Supplier<WishMarket> refusing = () -> {
                WishMarket x = new WishMarket();
                Checks.thrown(Checks.ARGUMENT, () -> Checks.load(x, "market 3"));
                x.append(1, 2, 3, 4, 5);
                String before = Picture.of(x);
                Checks.thrown(Checks.STATE, () -> call.answer(x));
                Checks.due(Picture.of(x), before);
                // A setup that comes later is not hurt.
                Checks.thrown(Checks.ARGUMENT, () -> x.parseSetup(20));
                Checks.load(x, MARKET);
                return x;
            };
            Checks.due(Picture.withPast(refusing), Picture.withPast(() -> Checks.market(MARKET)));
        }
    }

    private static void firstListed() {
        Checks.sentence("If several exceptions apply to a call, the exception that is listed first in its "
                + "documentation is thrown.");
        WishMarket none = new WishMarket();
        Checks.thrown(Checks.STATE, () -> none.coinsAfter(-1, -1));
        Checks.thrown(Checks.STATE, () -> none.valueAfter(99, 301));
        Checks.thrown(Checks.STATE, () -> none.advance(0));
        Checks.thrown(Checks.STATE, () -> none.buy(-1, -1));
        Checks.thrown(Checks.STATE, () -> none.sell(-1, -1));
        Checks.thrown(Checks.STATE, () -> none.returnWish(-1));
        Checks.thrown(Checks.STATE, () -> none.grant(-1));
        Checks.thrown(Checks.STATE, () -> none.setLimit(-1, -1));
        Checks.thrown(Checks.STATE, () -> none.setMargin(-1, -1));
        Checks.thrown(Checks.STATE, () -> none.saveState(2));
        // Here the index is listed first.
        Checks.thrown(Checks.INDEX, () -> none.restoreState(2));
        Checks.thrown(Checks.INDEX, () -> none.parseSetup(1));
        WishMarket x = Checks.market(MARKET);
        Checks.thrown(Checks.INDEX, () -> x.coinsAfter(2, 301));
        Checks.thrown(Checks.INDEX, () -> x.valueAfter(3, -1));
        // Wish 1 can not be bought, and person 1 can not buy wish 0: still the index that does not exist comes first.
        Checks.thrown(Checks.INDEX, () -> x.buy(2, 1));
        Checks.thrown(Checks.INDEX, () -> x.buy(1, 3));
        Checks.thrown(Checks.INDEX, () -> x.sell(0, 2));
        Checks.thrown(Checks.INDEX, () -> x.sell(3, 1));
        Checks.thrown(Checks.INDEX, () -> x.setLimit(2, 201));
        Checks.thrown(Checks.INDEX, () -> x.setMargin(2, -1));
        Checks.thrown(Checks.INDEX, () -> x.restoreState(2));
        Checks.due(x.undoCount(), 0);
    }
}
