import java.util.function.Supplier;

/** What calls leave alone: an object with a full past, both states saved, output, input and an error keeps them all. */
public final class QuietTest {
    /** Every phase of a day has something to do, so a prediction changes nearly everything that it looks at. */
    private static final String MARKET = "market 9;stall 4 90 10 20;stall 3 40 49 0;person a 150 5 5 party bargain;"
            + "person b 70 2 9 bargain;wish v 20 0 at 0;wish w 30 4 with 0;wish u 9 0 at 1;wish t 12 0 with 1 worn 8;"
            + "wish s 99 0 at 0;regret 9;limit 0 19;limit 1 30;tax 3 10;auction 7";

    private static final Checks.CallOn[] LOOKING = {x -> x.parseErrorCode(), x -> x.parseErrorPosition(),
        x -> x.bufferLength(), x -> x.day(), x -> x.yearLength(), x -> x.dayOfYear(), x -> x.grantedCount(),
        x -> x.fadedCount(), x -> x.imbalance(), x -> x.averageWear(), x -> x.averageStars(), x -> x.personCount(),
        x -> x.personLetter(1, 0), x -> x.coins(1), x -> x.birthday(1), x -> x.candles(1), x -> x.happiness(1),
        x -> x.ownedCount(1), x -> x.shoppingLimit(1), x -> x.daysUntilBirthday(1), x -> x.stallCount(),
        x -> x.cash(1), x -> x.stars(1), x -> x.margin(1), x -> x.stockCount(1), x -> x.wishLetter(1, 0),
        x -> x.baseValue(1), x -> x.strength(1), x -> x.wear(1), x -> x.value(1), x -> x.owner(1), x -> x.stallOf(1),
        x -> x.isGranted(1), x -> x.purchaseDay(1), x -> x.purchasePrice(1), x -> x.price(0), x -> x.offer(1, 1),
        x -> x.refund(1), x -> x.buyObstacle(1, 0), x -> x.sellObstacle(1, 1), x -> x.returnObstacle(1),
        x -> x.grantObstacle(1), x -> x.cheapestWish(1), x -> x.bestGrant(0), x -> x.bestOffer(1),
        x -> x.daysUntilFaded(1), x -> x.outputByte(0), x -> x.undoCount()};

    private static final Checks.CallOn[] PREDICTING = {x -> x.coinsAfter(0, 0), x -> x.coinsAfter(1, 1),
        x -> x.coinsAfter(0, 300), x -> x.valueAfter(0, 0), x -> x.valueAfter(3, 1), x -> x.valueAfter(1, 300)};

    private static final Checks.CallOn[] CHANGING = {x -> x.advance(1), x -> x.advance(300), x -> x.buy(0, 4),
        x -> x.sell(3, 0), x -> x.returnWish(2), x -> x.grant(1), x -> x.setLimit(0, 7), x -> x.setMargin(1, 7)};

    private static final String[] WRONG_SETUPS = {"", "?", "market 4", "market 4;stall 1 1 1 1;person z 1 1 1;fee 51",
        "market 4;stall 8 9 9 9;person z 99 1 1;wish s 9 0 at 0;buy 0 0;limit 0 9;advance 300;"
        + "repeat 2(wish y 1 0 at 0)"};

    public static void main(String[] args) {
        looking();
        predicting();
        writing();
        appending();
        changing();
        undoing();
        saving();
        wrongSetups();
        Checks.end();
    }

    /** Eleven changes, so that the eight that can be undone are the latest ones; wish 2 is bought, wish 1 is not. */
    private static WishMarket busy() {
        WishMarket x = Checks.market(MARKET);
        for (int limit = 100; limit < 103; limit++) {
            x.setLimit(1, limit);
        }
        x.saveState(0);
        x.setMargin(0, 30);
        x.advance(1);
        x.setLimit(0, 8);
        x.advance(3);
        x.saveState(1);
        x.setMargin(1, 40);
        x.advance(1);
        x.setLimit(1, 1);
        x.setMargin(1, 0);
        x.writePerson(0);
        Checks.thrown(Checks.ARGUMENT, () -> Checks.load(x, "market 9;fee 51"));
        x.append(0x6d61726b, 0x65742039, 0x3b737461, 0x6c6c2031, 0x20302030);
        return x;
    }

    private static Supplier<WishMarket> busyAfter(Checks.CallOn call) {
        return () -> {
            WishMarket x = busy();
            Checks.answered(() -> call.answer(x));
            return x;
        };
    }

    private static void leavesAll(Checks.CallOn call) {
        Checks.due(Picture.of(busyAfter(call).get()), Picture.of(busy()));
        Checks.due(Picture.withPast(busyAfter(call)), Picture.withPast(() -> busy()));
    }

    /** What the states saved in both slots look like, when they are restored. */
    private static String savedStates(Supplier<WishMarket> makes) {
        StringBuilder text = new StringBuilder();
        for (int slot = 0; slot < 2; slot++) {
            WishMarket x = makes.get();
            text.append(x.restoreState(slot)).append(Picture.ofMarket(x));
        }
        return text.toString();
    }

    private static void looking() {
        Checks.due(busy().undoCount(), 8);
        for (Checks.CallOn call : LOOKING) {
            leavesAll(call);
        }
    }

    private static void predicting() {
        Checks.sentence("---- searches and predictions; these methods change nothing.");
        for (Checks.CallOn call : PREDICTING) {
            leavesAll(call);
        }
        // Nor does it matter to a prediction that another one came before.
        WishMarket x = busy();
        int coins = busy().coinsAfter(0, 9);
        int value = busy().valueAfter(0, 9);
        for (int i = 0; i < 3; i++) {
            Checks.due(x.coinsAfter(0, 9), coins);
            Checks.due(x.valueAfter(0, 9), value);
        }
    }

    private static void writing() {
        Checks.sentence("to the output, which replaces the previous output");
        Checks.CallOn[] calls = {x -> x.writeStall(0), x -> x.writeStall(1), x -> x.writePerson(1)};
        for (Checks.CallOn call : calls) {
            Supplier<WishMarket> written = busyAfter(x -> "" + call.answer(x) + x.writePerson(0));
            Checks.due(Picture.of(written.get()), Picture.of(busy()));
            Checks.due(Picture.withPast(written), Picture.withPast(() -> busy()));
        }
    }

    private static void appending() {
        Checks.sentence("Appends twenty bytes to the input buffer");
        Checks.due(Picture.withPast(busyAfter(x -> x.append(1, 2, 3, 4, 5))), Picture.withPast(() -> busy()));
        WishMarket x = busy();
        Checks.due(x.append(1, 2, 3, 4, 5), 40);
        Checks.due(x.parseErrorCode(), WishMarket.RANGE_ERROR);
        Checks.due(x.parseErrorPosition(), 13);
    }

    private static void changing() {
        Checks.sentence("It stays saved.");
        String states = savedStates(() -> busy());
        for (Checks.CallOn call : CHANGING) {
            Checks.due(savedStates(busyAfter(call)), states);
            // What is undone leaves nothing behind, and seven of the eight changes before can still be undone.
            WishMarket x = busyAfter(call).get();
            Checks.due(x.undoCount(), 8);
            Checks.due(x.undo(), 7);
            Checks.due(Picture.ofMarket(x), Picture.ofMarket(busy()));
            Checks.due(x.bufferLength(), 20);
            Checks.due(x.parseErrorCode(), WishMarket.RANGE_ERROR);
            Checks.due(x.parseErrorPosition(), 13);
            Checks.due(x.outputByte(0), (int) 'a');
            x.undo();
            WishMarket before = busy();
            before.undo();
            Checks.due(Picture.ofMarket(x), Picture.ofMarket(before));
        }
    }

    private static void undoing() {
        Checks.sentence("Undoing and restoring do not affect the input buffer and the output.");
        Checks.due(savedStates(busyAfter(x -> x.undo())), savedStates(() -> busy()));
        Checks.CallOn[] calls = {x -> x.undo(), x -> x.restoreState(0), x -> x.restoreState(1)};
        String due = Checks.output(busy(), busy().writePerson(0));
        for (Checks.CallOn call : calls) {
            WishMarket x = busyAfter(call).get();
            Checks.due(Checks.output(x, due.length()), due);
            Checks.due(x.bufferLength(), 20);
            Checks.due(x.parseErrorCode(), WishMarket.RANGE_ERROR);
            Checks.due(x.parseErrorPosition(), 13);
        }
        Checks.due(savedStates(busyAfter(x -> x.restoreState(0))), savedStates(() -> busy()));
        Checks.due(savedStates(busyAfter(x -> x.restoreState(1))), savedStates(() -> busy()));
    }

    private static void saving() {
        Checks.sentence("Saves the state of the simulation in a slot. A state that was saved there before is lost.");
        for (int slot = 0; slot < 2; slot++) {
            int saved = slot;
            Supplier<WishMarket> after = busyAfter(x -> x.saveState(saved));
            Checks.due(Picture.of(after.get()), Picture.of(busy()));
            WishMarket other = after.get();
            WishMarket otherBefore = busy();
            Checks.due(other.restoreState(1 - slot), otherBefore.restoreState(1 - slot));
            Checks.due(Picture.ofMarket(other), Picture.ofMarket(otherBefore));
            WishMarket x = after.get();
            x.undo();
            x.advance(2);
            Checks.due(x.restoreState(slot), 5);
            Checks.due(Picture.ofMarket(x), Picture.ofMarket(busy()));
        }
    }

    private static void wrongSetups() {
        Checks.sentence("if the setup is invalid; the previous simulation stays unchanged");
        for (String setup : WRONG_SETUPS) {
            Supplier<WishMarket> after = () -> {
                WishMarket x = busy();
                Checks.thrown(Checks.ARGUMENT, () -> x.parseSetup(20));
                Checks.thrown(Checks.ARGUMENT, () -> Checks.load(x, setup));
                return x;
            };
            Checks.due(Picture.withPast(after), Picture.withPast(() -> busy()));
        }
    }
}
