/** Promises 1 to 6: a new object, the input buffer, and what parseSetup does to the object around the setup itself. */
public final class InputTest {
    private static final String GOOD = "market 4;stall 1 7 0 0;person a 5 0 0;wish x 3 0 at 0";

    public static void main(String[] args) {
        newObject();
        appending();
        bytesInOrder();
        lengths();
        errorsStay();
        invalidSetupChangesNothing();
        validSetupReplaces();
        nothingIsLeftOver();
        Checks.end();
    }

    private static void newObject() {
        WishMarket x = new WishMarket();
        Checks.due(x.bufferLength(), 0);
        Checks.due(x.parseErrorCode(), 0);
        Checks.due(x.parseErrorPosition(), WishMarket.NONE);
        Checks.due(x.undoCount(), 0);
        Checks.thrown(Checks.STATE, () -> x.day());
        Checks.thrown(Checks.STATE, () -> x.undo());
        Checks.thrown(Checks.INDEX, () -> x.outputByte(0));
        Checks.thrown(Checks.STATE, () -> x.restoreState(0));
        Checks.thrown(Checks.INDEX, () -> x.parseSetup(1));
    }

    private static void appending() {
        WishMarket x = new WishMarket();
        for (int i = 1; i <= 25; i++) {
            Checks.due(x.append(0, 0, 0, 0, 0), 20 * i);
            Checks.due(x.bufferLength(), 20 * i);
        }
        Checks.due(x.append(1, 2, 3, 4, 5), WishMarket.NONE);
        Checks.due(x.bufferLength(), 500);
        Checks.thrown(Checks.INDEX, () -> x.parseSetup(501));
        Checks.thrown(Checks.ARGUMENT, () -> x.parseSetup(500));
        Checks.due(x.bufferLength(), 0);
        Checks.due(x.append(-1, Integer.MIN_VALUE, Integer.MAX_VALUE, 0, 7), 20);
    }

    /** Every byte of an append is seen: a byte that starts no token is told at its place. */
    private static void bytesInOrder() {
        for (int i = 0; i < 20; i++) {
            for (int wrong : new int[] {0, 1, 31, 33, 47, 58, 64, 65, 90, 96, 123, 127, 128, 177, 225, 255}) {
                int[] words = {0x20202020, 0x20202020, 0x20202020, 0x20202020, 0x20202020};
                int shift = 24 - i % 4 * 8;
                words[i / 4] = words[i / 4] & ~(255 << shift) | wrong << shift;
                WishMarket x = new WishMarket();
                x.append(words[0], words[1], words[2], words[3], words[4]);
                Checks.thrown(Checks.ARGUMENT, () -> x.parseSetup(20));
                Checks.due(x.parseErrorCode(), WishMarket.SYNTAX_ERROR);
                Checks.due(x.parseErrorPosition(), i);
            }
        }
    }

    private static void lengths() {
        WishMarket x = new WishMarket();
        int length = Checks.append(x, GOOD);
        int filled = x.bufferLength();
        Checks.thrown(Checks.INDEX, () -> x.parseSetup(-1));
        Checks.thrown(Checks.INDEX, () -> x.parseSetup(Integer.MIN_VALUE));
        Checks.thrown(Checks.INDEX, () -> x.parseSetup(filled + 1));
        Checks.thrown(Checks.INDEX, () -> x.parseSetup(Integer.MAX_VALUE));
        Checks.due(x.bufferLength(), filled);
        Checks.due(x.parseSetup(length), 1);
        Checks.due(x.bufferLength(), 0);
        Checks.due(x.parseErrorCode(), 0);
        Checks.due(x.parseErrorPosition(), WishMarket.NONE);
        // Only the first bytes count: a cut inside a token makes another token.
        Checks.append(x, GOOD.replace("7 0 0", "700 0"));
        Checks.thrown(Checks.ARGUMENT, () -> x.parseSetup(18));
        Checks.due(x.parseErrorPosition(), 18);
        // A buffer that is full to the last byte is parsed to the last byte.
        String spaces = " ".repeat(500 - GOOD.length());
        Checks.due(Checks.load(x, GOOD + spaces), 1);
        Checks.due(Checks.load(x, spaces + GOOD), 1);
        Checks.thrown(Checks.ARGUMENT, () -> x.parseSetup(0));
        Checks.due(x.parseErrorCode(), WishMarket.SYNTAX_ERROR);
        Checks.due(x.parseErrorPosition(), 0);
    }

    private static void errorsStay() {
        WishMarket x = new WishMarket();
        Checks.append(x, "market 3");
        Checks.thrown(Checks.ARGUMENT, () -> x.parseSetup(8));
        Checks.due(x.bufferLength(), 0);
        Checks.thrown(Checks.INDEX, () -> x.parseSetup(1));
        Checks.due(x.parseErrorCode(), WishMarket.RANGE_ERROR);
        Checks.due(x.parseErrorPosition(), 7);
        Checks.due(Checks.load(x, GOOD), 1);
        Checks.due(x.parseErrorCode(), 0);
        Checks.due(x.parseErrorPosition(), WishMarket.NONE);
        Checks.thrown(Checks.INDEX, () -> x.parseSetup(1));
        Checks.due(x.parseErrorCode(), 0);
    }

    private static void invalidSetupChangesNothing() {
        WishMarket x = new WishMarket();
        Checks.load(x, GOOD);
        x.buy(0, 0);
        x.saveState(1);
        x.setLimit(0, 9);
        x.writePerson(0);
        Checks.thrown(Checks.ARGUMENT, () -> Checks.load(x, "market 9;stall 2 2 2 2;person q 9 0 0;advance 9;"));
        Checks.due(x.yearLength(), 4);
        Checks.due(x.day(), 0);
        Checks.due(x.coins(0), 4);
        Checks.due(x.shoppingLimit(0), 9);
        Checks.due(x.wishLetter(0, 0), (int) 'x');
        Checks.due(x.undoCount(), 2);
        Checks.due(x.outputByte(0), (int) 'a');
        Checks.due(x.undo(), 1);
        Checks.due(x.shoppingLimit(0), 0);
        Checks.due(x.undo(), 0);
        Checks.due(x.coins(0), 5);
        Checks.due(x.restoreState(1), 0);
        Checks.due(x.coins(0), 4);
    }

    private static void validSetupReplaces() {
        WishMarket x = new WishMarket();
        Checks.load(x, "market 5;stall 2 9 9 9;stall 1 1 1 1;person q 50 1 1 party bargain;person r 9 0 0;"
                + "wish m 9 9 at 0 worn 3;wish n 9 9 with 1;regret 9;fee 40;limit 0 50;auction 1;tax 1 50;advance 2");
        x.saveState(0);
        x.saveState(1);
        x.advance(3);
        x.writeStall(0);
        int firstByte = x.outputByte(0);
        Checks.due(Checks.load(x, GOOD), 1);
        Checks.due(x.undoCount(), 0);
        Checks.thrown(Checks.STATE, () -> x.undo());
        Checks.thrown(Checks.STATE, () -> x.restoreState(0));
        Checks.thrown(Checks.STATE, () -> x.restoreState(1));
        Checks.due(x.outputByte(0), firstByte);
        Checks.due(x.day(), 0);
        Checks.due(x.personCount(), 1);
        Checks.due(x.stallCount(), 1);
        Checks.due(x.happiness(0), 0);
        Checks.due(x.shoppingLimit(0), 0);
        Checks.due(x.wear(0), 0);
        Checks.due(x.stallOf(0), 0);
        Checks.due(x.buy(0, 0), 1);
        // Three regret days and a fee of ten percent again, and neither auction nor tax.
        Checks.due(x.refund(0), 0);
        x.advance(3);
        Checks.due(x.coins(0), 4);
        Checks.due(x.returnObstacle(0), 0);
        x.advance(1);
        Checks.due(x.returnObstacle(0), 2);
        Checks.due(x.imbalance(), 0);
    }

    /** A small setup after a large one, valid or not: its persons, stalls and wishes are new, and all there are. */
    private static void nothingIsLeftOver() {
        Checks.sentence("as a setup (section 6) and replaces the simulation by it.");
        String large = "market 5;stall 8 999 50 0;stall 8 0 9 0;stall 8 0 0 0;person q 99 0 0 party bargain;"
                + "person r 999 0 0 bargain;wish m 9 0 with 0;wish n 99 0 at 0;wish o 9 0 with 1;"
                + "wish p 9 0 with 0 worn 9;limit 0 9;limit 1 9;tax 1 9;auction 2;buy 1 1;advance 5;"
                + "repeat 5(advance 300)";
        String small = "market 4;stall 1 40 0 0;person a 50 0 0;wish x 30 0 with 0";
        WishMarket y = new WishMarket();
        Checks.load(y, small + ";wish y 9 0 with 0;wish z 9 0 with 0 worn 9;grant 1;advance 4");
        Checks.due(y.grantedCount() + y.fadedCount(), 2);
        Checks.load(y, small);
        Checks.due(y.grantedCount(), 0);
        Checks.load(y, small + ";wish y 9 0 with 0");
        Checks.due(y.fadedCount(), 0);
        String two = "market 9;stall 8 0 0 0;stall 8 99 50 0;person a 50 1 0;person b 999 1 0;wish x 8 0 with 0;"
                + "wish y 30 0 at 0;buy 0 1";
        Checks.load(y, two);
        Checks.load(y, "market 9;stall 8 0 0 0;stall 8 99 50 0;person a 50 1 0 bargain;wish x 8 0 with 0;advance 1");
        Checks.due(y.coins(0), 50);
        Checks.load(y, two);
        Checks.load(y, "market 9;stall 8 0 0 0;person a 50 1 0;wish x 40 0 at 0;auction 0;advance 1");
        Checks.due(y.owner(0), 0);
        for (String end : new String[] {"", ";"}) {
            WishMarket x = new WishMarket();
            Checks.append(x, large + end);
            int length = large.length() + end.length();
            if (end.isEmpty()) {
                Checks.due(x.parseSetup(length), 4);
                Checks.due(x.grantedCount(), 1);
                Checks.due(x.happiness(0), 9);
            } else {
                Checks.thrown(Checks.ARGUMENT, () -> x.parseSetup(length));
            }
            Checks.due(Checks.load(x, small + ";auction 0;tax 0 10;advance 300"), 1);
            Checks.due(x.happiness(0), 0);
            Checks.due(x.shoppingLimit(0), 0);
            Checks.due(x.grantedCount(), 0);
            Checks.due(x.fadedCount(), 1);
            Checks.due(x.candles(0), 75);
            Checks.due(x.coins(0) + x.cash(0), 90);
            Checks.due(x.imbalance(), 0);
            // The days of the setups before do not count for the 2000 days of this one.
            Checks.due(Checks.load(x, small + ";repeat 5(advance 300)"), 1);
            Checks.due(Checks.load(x, "market 9;stall 1 0 0 0;person a 50 0 0;wish x 30 0 at 0;auction 0;"
                    + "advance 1"), 1);
            Checks.due(x.owner(0), 0);
            Checks.due(x.grantedCount() + x.fadedCount(), 0);
            Checks.thrown(Checks.INDEX, () -> x.coins(1));
            Checks.thrown(Checks.INDEX, () -> x.cash(1));
            Checks.thrown(Checks.INDEX, () -> x.wear(1));
            // Neither habit of the person before is left.
            Checks.due(Checks.load(x, "market 9;stall 8 0 0 0;stall 8 99 50 0;person a 50 0 9;wish x 30 0 at 0;"
                    + "wish y 8 0 with 0;buy 0 0;advance 1"), 2);
            Checks.due(x.owner(0), 0);
            Checks.due(x.owner(1), 0);
        }
    }
}
