/** Promises 60 to 65: limits and margins, undoing, and saved states. */
public final class ChangeTest {
    private static final String H = "market 9;stall 8 99 10 20;person a 99 0 9;wish a 20 0 at 0;wish b 30 0 with 0";

    public static void main(String[] args) {
        limits();
        margins();
        undoing();
        undoingEveryChange();
        saving();
        Checks.end();
    }

    private static void limits() {
        WishMarket x = Checks.market(H + ";limit 0 30");
        Checks.due(x.setLimit(0, 200), 30);
        Checks.due(x.setLimit(0, 0), 200);
        Checks.due(x.setLimit(0, 7), 0);
        Checks.due(x.shoppingLimit(0), 7);
        for (int wrong : new int[] {-1, 201, Integer.MIN_VALUE, Integer.MAX_VALUE}) {
            Checks.thrown(Checks.ARGUMENT, () -> x.setLimit(0, wrong));
            Checks.thrown(Checks.INDEX, () -> x.setLimit(1, wrong));
            Checks.thrown(Checks.INDEX, () -> x.setLimit(wrong, 5));
        }
        Checks.due(x.shoppingLimit(0), 7);
        Checks.due(x.undoCount(), 3);
    }

    private static void margins() {
        WishMarket x = Checks.market(H);
        Checks.due(x.setMargin(0, 100), 20);
        Checks.due(x.price(0), 24);
        Checks.due(x.setMargin(0, 0), 100);
        Checks.due(x.setMargin(0, 8), 0);
        for (int wrong : new int[] {-1, 101, Integer.MIN_VALUE, Integer.MAX_VALUE}) {
            Checks.thrown(Checks.ARGUMENT, () -> x.setMargin(0, wrong));
            Checks.thrown(Checks.INDEX, () -> x.setMargin(1, wrong));
            Checks.thrown(Checks.INDEX, () -> x.setMargin(wrong, 5));
        }
        Checks.due(x.margin(0), 8);
        Checks.due(x.undoCount(), 3);
    }

    private static void undoing() {
        WishMarket x = Checks.market(H);
        Checks.thrown(Checks.STATE, () -> x.undo());
        for (int i = 1; i <= 12; i++) {
            x.setLimit(0, i);
            Checks.due(x.undoCount(), Math.min(i, 8));
        }
        for (int i = 7; i >= 0; i--) {
            Checks.due(x.undo(), i);
            Checks.due(x.undoCount(), i);
            Checks.due(x.shoppingLimit(0), i + 4);
        }
        Checks.thrown(Checks.STATE, () -> x.undo());
        Checks.due(x.shoppingLimit(0), 4);
        // A change that changed nothing can be undone too; a call that threw can not.
        x.setLimit(0, 4);
        Checks.due(x.undoCount(), 1);
        Checks.thrown(Checks.ARGUMENT, () -> x.setLimit(0, 201));
        Checks.thrown(Checks.ARGUMENT, () -> x.buy(0, 1));
        Checks.due(x.undoCount(), 1);
        Checks.due(x.undo(), 0);
        // After an undo the next change takes its place.
        for (int i = 10; i < 20; i++) {
            x.setLimit(0, i);
        }
        x.undo();
        x.undo();
        x.setLimit(0, 50);
        Checks.due(x.undoCount(), 7);
        x.undo();
        Checks.due(x.shoppingLimit(0), 17);
        for (int i = 0; i < 6; i++) {
            x.undo();
        }
        Checks.due(x.shoppingLimit(0), 11);
        Checks.due(x.undoCount(), 0);
    }

    private static String picture(WishMarket x) {
        StringBuilder text = new StringBuilder();
        text.append(x.day()).append(' ').append(x.coins(0)).append(' ').append(x.candles(0)).append(' ');
        text.append(x.happiness(0)).append(' ').append(x.shoppingLimit(0)).append(' ').append(x.cash(0)).append(' ');
        text.append(x.stars(0)).append(' ').append(x.margin(0)).append(' ');
        for (int w = 0; w < 2; w++) {
            text.append(x.wear(w)).append(' ').append(x.owner(w)).append(' ').append(x.stallOf(w)).append(' ');
            text.append(x.isGranted(w)).append(' ').append(x.purchaseDay(w)).append(' ');
            text.append(x.refund(w)).append(' ');
            text.append(x.daysUntilFaded(w)).append(' ').append(x.returnObstacle(w)).append(' ');
        }
        return text.toString();
    }

    private static void undoingEveryChange() {
        WishMarket x = Checks.market(H);
        String[] pictures = new String[9];
        pictures[0] = picture(x);
        x.setMargin(0, 50);
        pictures[1] = picture(x);
        x.buy(0, 0);
        pictures[2] = picture(x);
        x.advance(2);
        pictures[3] = picture(x);
        x.returnWish(0);
        pictures[4] = picture(x);
        x.sell(1, 0);
        pictures[5] = picture(x);
        x.buy(0, 1);
        pictures[6] = picture(x);
        x.advance(7);
        pictures[7] = picture(x);
        x.grant(1);
        pictures[8] = picture(x);
        Checks.due(x.day(), 9);
        Checks.due(x.grantedCount(), 1);
        for (int i = 7; i >= 0; i--) {
            Checks.due(pictures[i].equals(pictures[i + 1]), false);
            Checks.due(x.undo(), i);
            Checks.due(picture(x), pictures[i]);
            Checks.due(x.imbalance(), 0);
        }
    }

    private static void saving() {
        WishMarket x = Checks.market(H + ";advance 4");
        for (int wrong : new int[] {-1, 2, Integer.MIN_VALUE, Integer.MAX_VALUE}) {
            Checks.thrown(Checks.INDEX, () -> x.saveState(wrong));
            Checks.thrown(Checks.INDEX, () -> x.restoreState(wrong));
        }
        Checks.thrown(Checks.STATE, () -> x.restoreState(0));
        Checks.thrown(Checks.STATE, () -> x.restoreState(1));
        Checks.due(x.saveState(0), 4);
        Checks.due(x.undoCount(), 0);
        String first = picture(x);
        Checks.thrown(Checks.STATE, () -> x.restoreState(1));
        x.buy(0, 0);
        x.advance(3);
        Checks.due(x.undoCount(), 2);
        // Saving is no change: the history stays, and undo does not take it back.
        Checks.due(x.saveState(1), 7);
        Checks.due(x.undoCount(), 2);
        String second = picture(x);
        Checks.due(x.undo(), 1);
        Checks.due(x.restoreState(1), 7);
        Checks.due(picture(x), second);
        Checks.due(x.undoCount(), 0);
        Checks.thrown(Checks.STATE, () -> x.undo());
        x.setLimit(0, 9);
        Checks.thrown(Checks.INDEX, () -> x.restoreState(2));
        Checks.due(x.undoCount(), 1);
        Checks.due(x.restoreState(0), 4);
        Checks.due(picture(x), first);
        // A state stays saved, whatever happens to the one that was restored from it.
        x.advance(20);
        Checks.due(x.restoreState(0), 4);
        Checks.due(picture(x), first);
        Checks.due(x.restoreState(1), 7);
        x.advance(1);
        Checks.due(x.saveState(0), 8);
        x.advance(1);
        Checks.due(x.restoreState(0), 8);
        Checks.due(x.restoreState(1), 7);
        Checks.due(picture(x), second);
        // Neither the input buffer nor the output is part of a state.
        x.append(1, 2, 3, 4, 5);
        int length = x.writePerson(0);
        x.setLimit(0, 3);
        x.undo();
        x.restoreState(0);
        Checks.due(x.bufferLength(), 20);
        Checks.due(Checks.output(x, length).charAt(0), 'a');
    }
}
