import java.util.ArrayList;
import java.util.List;

/** Section 7 and promises 1 to 14, 20 to 23 and 46 to 65: the edges of each call, sentence by sentence. */
public final class CallBoundsTest {
    private static final int NONE = WishMarket.NONE;
    private static final String SMALL = "market 9;stall 1 0 0 0;person a 0 0 0";

    public static void main(String[] args) {
        emptyObject();
        noSuchCall();
        fullBuffer();
        parsedLength();
        fullSetup();
        latestError();
        setupClears();
        setupWithoutClearing();
        counters();
        averages();
        happinessAndOwned();
        untilBirthday();
        noneOfThese();
        searchesWithout();
        predictedDays();
        untilFaded();
        stallOutput();
        personOutput();
        outputStays();
        advancedDays();
        limitsAndMargins();
        eightChanges();
        changesThatChangeNothing();
        undoneAndChanged();
        savedStates();
        restoredStates();
        Checks.end();
    }

    private static void emptyObject() {
        Checks.sentence("Creates a simulator without a setup and with an empty input buffer.");
        WishMarket x = new WishMarket();
        Checks.due(x.bufferLength(), 0);
        Checks.due(x.undoCount(), 0);
        Checks.thrown(Checks.STATE, () -> x.day());
        Checks.sentence("All methods except append, parseSetup, parseErrorCode, parseErrorPosition, bufferLength, "
                + "outputByte, undoCount, undo and restoreState throw IllegalStateException if no setup has been "
                + "loaded.");
        Checks.due(x.append(1, 2, 3, 4, 5), 20);
        Checks.thrown(Checks.ARGUMENT, () -> x.parseSetup(20));
        Checks.due(x.bufferLength(), 0);
        Checks.due(x.undoCount(), 0);
        Checks.thrown(Checks.INDEX, () -> x.outputByte(0));
        Checks.thrown(Checks.INDEX, () -> x.restoreState(2));
        // Where these two throw it nevertheless, it is for want of a change and of a saved state.
        Checks.thrown(Checks.STATE, () -> x.undo());
        Checks.thrown(Checks.STATE, () -> x.restoreState(1));
        Checks.thrown(Checks.STATE, () -> x.day());
    }

    private static void noSuchCall() {
        WishMarket x = new WishMarket();
        Checks.sentence("0 if that call succeeded or if there was no such call.");
        Checks.due(x.parseErrorCode(), 0);
        Checks.due(x.parseErrorPosition(), NONE);
        Checks.thrown(Checks.INDEX, () -> x.parseSetup(1));
        Checks.due(x.parseErrorCode(), 0);
        Checks.due(x.parseErrorPosition(), NONE);
        // A setup of no byte ends too early.
        Checks.thrown(Checks.ARGUMENT, () -> x.parseSetup(0));
        Checks.due(x.parseErrorCode(), WishMarket.SYNTAX_ERROR);
        Checks.due(x.parseErrorPosition(), 0);
    }

    private static void fullBuffer() {
        Checks.sentence("NONE if the buffer would hold more than 500 bytes, in which case nothing is appended.");
        WishMarket x = new WishMarket();
        String setup = SMALL + " ".repeat(500 - SMALL.length());
        for (int round = 0; round < 3; round++) {
            Checks.append(x, setup);
            Checks.due(x.bufferLength(), 500);
            Checks.due(x.append(-1, -1, -1, -1, -1), NONE);
            Checks.due(x.append(0x3f3f3f3f, 0, 0, 0, 0), NONE);
            Checks.due(x.bufferLength(), 500);
            Checks.thrown(Checks.INDEX, () -> x.parseSetup(501));
            Checks.due(x.bufferLength(), 500);
            // Neither the first bytes nor the last ones have been written over.
            Checks.due(x.parseSetup(500), 0);
            Checks.due(x.bufferLength(), 0);
        }
        for (int i = 1; i <= 24; i++) {
            Checks.due(x.append(i, i, i, i, i), 20 * i);
        }
        Checks.due(x.append(0, 0, 0, 0, 0), 500);
        Checks.due(x.append(0, 0, 0, 0, 0), NONE);
    }

    private static void parsedLength() {
        Checks.sentence("if length is negative or greater than the length of the buffer (checked first;"
                + " the buffer and the latest parse error stay unchanged)");
        WishMarket x = new WishMarket();
        Checks.append(x, SMALL);
        for (int wrong : new int[] {-1, 41, 500, 501, Integer.MIN_VALUE, Integer.MAX_VALUE}) {
            Checks.thrown(Checks.INDEX, () -> x.parseSetup(wrong));
            Checks.due(x.bufferLength(), 40);
        }
        Checks.due(x.parseSetup(SMALL.length()), 0);
        // The bytes behind the length are not looked at, and not kept.
        Checks.due(x.bufferLength(), 0);
        Checks.append(x, SMALL + "0");
        Checks.due(x.parseSetup(SMALL.length()), 0);
        Checks.due(x.candles(0), 0);
        Checks.append(x, SMALL);
        Checks.thrown(Checks.ARGUMENT, () -> x.parseSetup(SMALL.length() - 1));
        Checks.due(x.parseErrorPosition(), SMALL.length() - 1);
        Checks.append(x, SMALL + "   ");
        Checks.due(x.bufferLength(), 40);
        Checks.due(x.parseSetup(40), 0);
        Checks.thrown(Checks.INDEX, () -> x.parseSetup(1));
        Checks.due(x.parseErrorCode(), 0);
    }

    private static void fullSetup() {
        Checks.sentence("Returns index of the first byte of the token with the error");
        String setup = SMALL + ";fee 1".repeat(77);
        Checks.due(setup.length(), 499);
        Checks.valid(setup);
        Checks.valid(setup + "0");
        Checks.syntaxError(setup + "^?");
        Checks.rangeError(setup.substring(0, 498) + "^99");
        // The last byte may be a token's first, and the position may be the number of all bytes that there can be.
        WishMarket x = new WishMarket();
        Checks.thrown(Checks.ARGUMENT, () -> Checks.load(x, setup + ";"));
        Checks.due(x.parseErrorPosition(), 500);
    }

    private static void latestError() {
        Checks.sentence("Returns the error code of the latest call of parseSetup that did not throw "
                + "IndexOutOfBoundsException.");
        WishMarket x = new WishMarket();
        String[] setups = {"?", "market 3", SMALL + ";person a", "market 9", SMALL, " ?", "  market 9", SMALL};
        int[] codes = {1, 2, 3, 4, 0, 1, 4, 0};
        int[] positions = {0, 7, SMALL.length() + 8, 8, NONE, 1, 10, NONE};
        for (int i = 0; i < setups.length; i++) {
            String setup = setups[i];
            if (codes[i] == 0) {
                Checks.load(x, setup);
            } else {
                Checks.thrown(Checks.ARGUMENT, () -> Checks.load(x, setup));
            }
            for (int again = 0; again < 2; again++) {
                Checks.due(x.parseErrorCode(), codes[i]);
                Checks.due(x.parseErrorPosition(), positions[i]);
                Checks.thrown(Checks.INDEX, () -> x.parseSetup(-1));
                Checks.thrown(Checks.INDEX, () -> x.parseSetup(1));
            }
        }
    }

    private static void setupClears() {
        Checks.sentence("If it is valid, the undo history and both saved states are cleared.");
        WishMarket x = Checks.market(SMALL);
        for (int i = 0; i < 9; i++) {
            x.setLimit(0, i);
        }
        x.saveState(0);
        x.saveState(1);
        Checks.due(Checks.load(x, SMALL + ";wish w 1 0 at 0"), 1);
        Checks.due(x.undoCount(), 0);
        Checks.thrown(Checks.STATE, () -> x.undo());
        Checks.thrown(Checks.STATE, () -> x.restoreState(0));
        Checks.thrown(Checks.STATE, () -> x.restoreState(1));
        // The history starts anew, and does not reach back behind the setup.
        x.setLimit(0, 77);
        Checks.due(x.undo(), 0);
        Checks.due(x.shoppingLimit(0), 0);
        Checks.thrown(Checks.STATE, () -> x.undo());
        x.saveState(1);
        Checks.thrown(Checks.STATE, () -> x.restoreState(0));
        Checks.due(x.restoreState(1), 0);
    }

    private static void setupWithoutClearing() {
        Checks.sentence("if the setup is invalid; the previous simulation stays unchanged");
        WishMarket x = Checks.market(SMALL);
        for (int i = 1; i <= 9; i++) {
            x.setLimit(0, i);
        }
        x.saveState(0);
        Checks.thrown(Checks.ARGUMENT, () -> Checks.load(x, SMALL + ";advance 0"));
        Checks.due(x.undoCount(), 8);
        Checks.due(x.shoppingLimit(0), 9);
        for (int i = 8; i >= 1; i--) {
            Checks.due(x.undo(), i - 1);
            Checks.due(x.shoppingLimit(0), i);
        }
        Checks.thrown(Checks.STATE, () -> x.restoreState(1));
        Checks.due(x.restoreState(0), 0);
        Checks.due(x.shoppingLimit(0), 9);
    }

    private static void counters() {
        Checks.sentence("Returns the number of wishes that have been granted.");
        WishMarket x = Checks.market("market 4;stall 8 0 0 0;stall 8 0 0 0;person a 9 0 0 party" + Setups.wishes(12)
                + ";wish ga 9 0 with 0;wish gb 9 0 with 0;wish gc 9 0 with 0;wish gd 9 0 with 0 worn 9");
        Checks.due(x.grantedCount(), 0);
        Checks.due(x.fadedCount(), 0);
        Checks.due(x.advance(1), 1);
        Checks.due(x.grantedCount(), 1);
        Checks.sentence("Returns the number of wishes that have faded.");
        Checks.due(x.advance(3), 0);
        Checks.due(x.fadedCount(), 1);
        Checks.due(x.advance(300), 2);
        Checks.due(x.grantedCount(), 3);
        Checks.due(x.fadedCount(), 13);
        Checks.due(x.imbalance(), 0);
    }

    private static void averages() {
        Checks.sentence("0.0 without such wishes.");
        Checks.due(Checks.market(SMALL).averageWear(), 0.0);
        Checks.due(Checks.market(SMALL + ";wish w 1 0 at 0").averageWear(), 0.0);
        Checks.due(Checks.market(SMALL + ";wish w 1 0 with 0 worn 5;grant 0").averageWear(), 0.0);
        Checks.due(Checks.market(SMALL + ";wish w 1 0 with 0 worn 9;advance 9").averageWear(), 0.0);
        Checks.due(Checks.market(SMALL + ";wish w 1 0 at 0 worn 9").averageWear(), 9.0);
        Checks.due(Checks.market(SMALL + ";wish w 1 0 at 0 worn 1;wish v 1 0 with 0;wish u 1 0 with 0").averageWear(),
                1.0 / 3.0);
        Checks.due(Checks.market(SMALL + ";wish w 1 0 at 0 worn 8;wish v 1 0 with 0 worn 9;advance 9").averageWear(),
                9.0);
        Checks.sentence("Returns the sum of the stars of all stalls, converted to float, divided by the number of "
                + "stalls, converted to float.");
        Checks.due(Checks.market("market 9;stall 1 0 0 0;person a 0 0 0").averageStars(), 0.0f);
        Checks.due(Checks.market("market 9;stall 1 0 50 0;person a 0 0 0").averageStars(), 50.0f);
        Checks.due(Checks.market("market 9;repeat 5(stall 1 0 50 0);person a 0 0 0").averageStars(), 50.0f);
        Checks.due(Checks.market("market 9;repeat 2(stall 1 0 0 0);stall 1 0 1 0;person a 0 0 0").averageStars(),
                1.0f / 3.0f);
    }

    private static void happinessAndOwned() {
        Checks.sentence("Returns the sum of the values of all wishes that were granted to a person.");
        WishMarket x = Checks.market("market 4;stall 8 999 0 0;person a 0 0 0;person b 0 0 0;wish p 99 0 with 0;"
                + "wish q 98 0 with 0;wish r 97 0 with 0;wish s 96 0 with 0;wish t 95 0 with 1");
        int[] sums = {99, 197, 294, 390};
        Checks.sentence("Returns the number, 0 to 4.");
        for (int w = 0; w < 4; w++) {
            Checks.due(x.ownedCount(0), 4 - w);
            Checks.due(x.grant(w), sums[w]);
            Checks.due(x.happiness(0), sums[w]);
        }
        Checks.due(x.ownedCount(0), 0);
        Checks.due(x.ownedCount(1), 1);
        Checks.due(x.happiness(1), 0);
    }

    private static void untilBirthday() {
        Checks.sentence("Returns the number of days; 0 if the birthday is today.");
        for (int year : new int[] {4, 60}) {
            WishMarket x = Checks.market("market " + year + ";stall 1 0 0 0;person a 0 0 0;person b 0 1 0;person c 0 "
                    + (year - 1) + " 0");
            for (int day = 0; day <= 2 * year; day++) {
                int today = day % year;
                Checks.due(x.daysUntilBirthday(0), today == 0 ? 0 : year - today);
                Checks.due(x.daysUntilBirthday(1), today <= 1 ? 1 - today : year + 1 - today);
                Checks.due(x.daysUntilBirthday(2), year - 1 - today);
                x.advance(1);
            }
        }
    }

    private static void noneOfThese() {
        String h = "market 9;stall 8 99 50 0;stall 8 99 0 0;person a 99 0 9;person b 99 0 9;wish w 20 0 ";
        // Owner, stall, day and price of the purchase, price, offer of stall 0, refund.
        whereItIs(h + "at 0", NONE, 0, NONE, NONE, 20, NONE, NONE);
        whereItIs(h + "at 1", NONE, 1, NONE, NONE, 10, NONE, NONE);
        whereItIs(h + "with 1", 1, NONE, NONE, NONE, NONE, 20, NONE);
        whereItIs(h + "at 0;buy 1 0", 1, NONE, 0, 20, NONE, 20, 18);
        whereItIs(h + "at 1;advance 8;buy 0 0", 0, NONE, 8, 10, NONE, 20, 9);
        whereItIs(h + "at 1;auction 2;advance 3", 0, NONE, 2, 20, NONE, 20, 18);
        whereItIs(h + "at 0;buy 1 0;gift 0 0", 0, NONE, NONE, NONE, NONE, 20, NONE);
        whereItIs(h + "at 0;buy 1 0;wish v 1 0 with 0;swap 1 0", 0, NONE, NONE, NONE, NONE, 20, NONE);
        whereItIs(h + "at 0;buy 1 0;sell 0 1", NONE, 1, NONE, NONE, 10, NONE, NONE);
        whereItIs(h + "at 0;buy 1 0;return 0", NONE, 0, NONE, NONE, 19, NONE, NONE);
        whereItIs(h + "at 0;buy 1 0;grant 0", NONE, NONE, NONE, NONE, NONE, NONE, NONE);
        whereItIs(h + "at 0 worn 9;advance 9", NONE, NONE, NONE, NONE, NONE, NONE, NONE);
        whereItIs(h + "at 0 worn 9;buy 1 0;advance 9", NONE, NONE, NONE, NONE, NONE, NONE, NONE);
        Checks.sentence("it is always 0.");
        WishMarket x = Checks.market("market 4;person a 999 0 0 bargain" + Setups.stalls(5) + Setups.persons(5)
                + Setups.wishes(16) + ";limit 0 200;auction 1;tax 2 50;buy 1 9");
        for (int i = 0; i < 50; i++) {
            Checks.due(x.imbalance(), 0);
            x.advance(1);
        }
    }

    private static void whereItIs(String setup, int... due) {
        WishMarket x = Checks.market(setup);
        Checks.sentence("Returns index of the person; NONE if nobody owns it.");
        Checks.due(x.owner(0), due[0]);
        Checks.sentence("Returns index of the stall; NONE if it is in no stall.");
        Checks.due(x.stallOf(0), due[1]);
        Checks.sentence("Returns the day; NONE if nobody owns the wish, or the owner did not buy it.");
        Checks.due(x.purchaseDay(0), due[2]);
        Checks.sentence("Returns the price; NONE if purchaseDay() is NONE.");
        Checks.due(x.purchasePrice(0), due[3]);
        Checks.sentence("Returns the price; NONE if it is in no stall.");
        Checks.due(x.price(0), due[4]);
        Checks.sentence("Returns the amount; NONE if nobody owns the wish.");
        Checks.due(x.offer(0, 0), due[5]);
        Checks.sentence("Returns the amount; NONE if purchaseDay() is NONE.");
        Checks.due(x.refund(0), due[6]);
        Checks.sentence("Returns true if it has been granted.");
        Checks.due(x.isGranted(0), setup.contains("grant"));
        Checks.sentence("it is always 0.");
        Checks.due(x.imbalance(), 0);
    }

    private static void searchesWithout() {
        Checks.sentence("NONE if the person can buy no wish.");
        Checks.due(Checks.market(SMALL).cheapestWish(0), NONE);
        String h = "market 9;stall 8 0 50 0;person a 9 0 0;";
        Checks.due(Checks.market(h + "wish v 10 0 at 0").cheapestWish(0), NONE);
        Checks.due(Checks.market(h + "wish v 10 0 at 0;wish w 9 0 at 0").cheapestWish(0), 1);
        Checks.due(Checks.market(h + "wish v 9 0 at 0;wish w 9 0 at 0").cheapestWish(0), 0);
        Checks.due(Checks.market(h + "wish v 9 0 at 0;wish w 8 0 at 0;wish u 8 0 at 0").cheapestWish(0), 1);
        Checks.due(Checks.market(h + "wish v 7 0 at 0;wish w 8 0 at 0;wish u 9 0 at 0").cheapestWish(0), 0);
        Checks.due(Checks.market(h + "wish v 9 0 with 0").cheapestWish(0), NONE);
        Checks.due(Checks.market(h + "wish p 9 0 with 0;wish q 9 0 with 0;wish r 9 0 with 0;"
                + "wish s 9 0 at 0").cheapestWish(0), 3);
        Checks.due(Checks.market(h + "wish p 9 0 with 0;wish q 9 0 with 0;wish r 9 0 with 0;wish s 9 0 with 0;"
                + "wish t 1 0 at 0").cheapestWish(0), NONE);
        Checks.sentence("Returns index of the wish; of several the smallest one; NONE if there is none.");
        String g = "market 9;stall 8 0 50 0;person a 9 0 5;person b 9 1 5;";
        Checks.due(Checks.market(g + "fee 0").bestGrant(0), NONE);
        Checks.due(Checks.market(g + "wish v 9 6 with 0;wish w 9 0 with 1;wish u 9 0 at 0").bestGrant(0), NONE);
        Checks.due(Checks.market(g + "wish v 9 5 with 0").bestGrant(0), 0);
        Checks.due(Checks.market(g + "wish v 9 5 with 0").bestGrant(1), NONE);
        Checks.due(Checks.market(g + "wish v 9 5 with 0;advance 1").bestGrant(0), NONE);
        Checks.due(Checks.market(g + "wish v 1 5 with 0 worn 9;wish w 2 5 with 0 worn 9").bestGrant(0), 0);
        Checks.due(Checks.market(g + "wish t 8 0 with 0;wish v 18 5 with 0 worn 5;wish w 9 0 with 0").bestGrant(0), 1);
        Checks.sentence("Returns index of the stall; of several the smallest one; NONE if there is none.");
        String s = "market 9;stall 1 9 50 0;stall 1 9 50 0;stall 8 9 0 0;person a 9 0 5;";
        Checks.due(Checks.market(s + "wish v 9 0 at 0").bestOffer(0), NONE);
        Checks.due(Checks.market(s + "wish v 9 0 with 0").bestOffer(0), 0);
        Checks.due(Checks.market(s + "wish v 9 0 with 0;wish w 9 0 at 0").bestOffer(0), 1);
        Checks.due(Checks.market(s + "wish v 9 0 with 0;wish w 9 0 at 0;wish u 9 0 at 1").bestOffer(0), 2);
        Checks.due(Checks.market(s + "wish v 18 0 with 0").bestOffer(0), 2);
        Checks.due(Checks.market(s + "wish v 20 0 with 0").bestOffer(0), NONE);
        Checks.due(Checks.market(s + "wish v 9 0 with 0;grant 0").bestOffer(0), NONE);
    }

    private static void predictedDays() {
        Checks.sentence("`days`: number of days, 0 to 300");
        String text = "market 7;stall 8 500 0 40;stall 8 300 30 0;person a 900 2 0 party bargain;"
                + "person b 400 4 0 bargain;wish p 99 1 at 0;wish q 80 2 at 0;wish r 70 3 at 1;wish s 60 40 with 1;"
                + "limit 0 90;limit 1 50;auction 6;tax 5 7";
        String before = Picture.of(Checks.market(text));
        for (int days = 0; days <= 300; days++) {
            WishMarket x = Checks.market(text);
            int coins = x.coinsAfter(days % 2, days);
            int value = x.valueAfter(days % 4, days);
            if (days % 60 == 0) {
                Checks.due(Picture.of(x), before);
            }
            if (days > 0) {
                x.advance(days);
            }
            Checks.due(x.coins(days % 2), coins);
            Checks.due(x.value(days % 4), value);
        }
        WishMarket y = Checks.market(text);
        for (int wrong : new int[] {-1, 301, Integer.MIN_VALUE, Integer.MAX_VALUE}) {
            Checks.thrown(Checks.ARGUMENT, () -> y.coinsAfter(0, wrong));
            Checks.thrown(Checks.ARGUMENT, () -> y.valueAfter(0, wrong));
        }
    }

    private static void untilFaded() {
        Checks.sentence("Returns the number of days; 0 if it has faded; NONE if it has been granted.");
        for (int year : new int[] {4, 59, 60}) {
            for (int ended = 0; ended <= 10; ended++) {
                WishMarket x = Checks.market("market " + year + ";stall 8 0 0 0;person a 0 0 0;wish v 9 0 at 0;"
                        + "wish w 9 0 with 0 worn 9;wish u 9 0 with 0;wish t 9 0 with 0 worn 9;grant 2;grant 3"
                        + (";advance " + year).repeat(ended));
                untilFaded(x, year, ended * year);
                x.advance(1);
                untilFaded(x, year, ended * year + 1);
                x.advance(year - 2);
                untilFaded(x, year, ended * year + year - 1);
            }
        }
    }

    private static void untilFaded(WishMarket x, int year, int day) {
        Checks.due(x.day(), day);
        Checks.due(x.daysUntilFaded(0), Math.max(0, 10 * year - day));
        Checks.due(x.daysUntilFaded(1), Math.max(0, year - day));
        Checks.due(x.daysUntilFaded(2), NONE);
        Checks.due(x.daysUntilFaded(3), NONE);
        Checks.due(x.fadedCount(), (day >= year ? 1 : 0) + (day >= 10 * year ? 1 : 0));
    }

    private static void stallOutput() {
        Checks.sentence("Without wishes the output is a single hyphen.");
        WishMarket x = Checks.market("market 9;stall 8 0 0 0;stall 8 0 50 100;person a 999 0 0;wish z 1 0 with 0");
        Checks.due(Checks.output(x, x.writeStall(0)), "-");
        x.sell(0, 0);
        Checks.due(Checks.output(x, x.writeStall(0)), "z=1");
        x.buy(0, 0);
        Checks.due(Checks.output(x, x.writeStall(0)), "-");
        Checks.sentence("for each wish, in the order of the indices, its name, an equals sign and its price, with a "
                + "space between two wishes.");
        StringBuilder text = new StringBuilder("market 9;stall 8 0 50 100;stall 8 0 0 0;person a 0 0 0");
        StringBuilder due = new StringBuilder();
        for (int i = 0; i < 8; i++) {
            String name = "abcde" + (char) ('z' - i);
            text.append(";wish ").append(name).append(" 99 0 at 0;wish ").append((char) ('z' - i)).append(" 1 0 at 1");
            due.append(i == 0 ? "" : " ").append(name).append("=198");
        }
        WishMarket full = Checks.market(text.toString());
        Checks.due(full.writeStall(0), 87);
        Checks.due(Checks.output(full, 87), due.toString());
        Checks.due(Checks.output(full, full.writeStall(1)), "z=1 y=1 x=1 w=1 v=1 u=1 t=1 s=1");
    }

    private static void personOutput() {
        Checks.sentence("the name, a colon and the number of coins; then, for each wish that the person owns, in the "
                + "order of the indices, a space and the name of the wish.");
        String h = "market 9;stall 8 999 50 0;person a 0 0 0;person uvwxyz 999 0 0";
        WishMarket x = Checks.market(h);
        Checks.due(Checks.output(x, x.writePerson(0)), "a:0");
        Checks.due(Checks.output(x, x.writePerson(1)), "uvwxyz:999");
        x = Checks.market(h + ";wish z 1 0 with 1;wish yyyyyy 99 0 with 1;wish x 1 0 with 0;wish wwwwww 9 0 with 1;"
                + "wish vvvvvv 9 0 with 1;wish u 1 0 with 0");
        Checks.due(Checks.output(x, x.writePerson(1)), "uvwxyz:999 z yyyyyy wwwwww vvvvvv");
        Checks.due(Checks.output(x, x.writePerson(0)), "a:0 x u");
        // More than three digits, by the first sale; exactly one coin, by the other one.
        x.sell(0, 0);
        x.sell(2, 0);
        Checks.due(Checks.output(x, x.writePerson(1)), "uvwxyz:1000 yyyyyy wwwwww vvvvvv");
        Checks.due(Checks.output(x, x.writePerson(0)), "a:1 u");
    }

    private static void outputStays() {
        Checks.sentence("Undoing and restoring do not affect the input buffer and the output.");
        WishMarket x = Checks.market(SMALL);
        x.saveState(0);
        x.setLimit(0, 9);
        x.append(1, 2, 3, 4, 5);
        Checks.due(x.writePerson(0), 3);
        x.undo();
        Checks.due(Checks.output(x, 3), "a:0");
        Checks.due(x.bufferLength(), 20);
        Checks.due(x.restoreState(0), 0);
        Checks.due(Checks.output(x, 3), "a:0");
        Checks.due(x.bufferLength(), 20);
        Checks.sentence("to the output, which replaces the previous output");
        Checks.due(x.writeStall(0), 1);
        Checks.due(Checks.output(x, 1), "-");
        Checks.due(x.writePerson(0), 3);
        Checks.due(Checks.output(x, 3), "a:0");
    }

    private static void advancedDays() {
        Checks.sentence("`days`: number of days, 1 to 300");
        WishMarket x = Checks.market(SMALL);
        for (int wrong : new int[] {0, -1, 301, Integer.MIN_VALUE, Integer.MAX_VALUE}) {
            Checks.thrown(Checks.ARGUMENT, () -> x.advance(wrong));
        }
        Checks.due(x.day(), 0);
        Checks.due(x.advance(1), 0);
        Checks.due(x.day(), 1);
        Checks.due(x.advance(300), 0);
        Checks.due(x.day(), 301);
        Checks.sentence("Returns the number of wishes that were granted in them.");
        WishMarket y = Checks.market("market 4;stall 8 0 0 0;person a 0 0 0 party;person b 0 0 0 party;"
                + "wish p 9 0 with 0;wish q 9 0 with 0;wish r 9 0 with 1;wish s 9 2 with 1;wish t 9 0 with 0");
        // A wish that is granted by grant() is none of them.
        y.grant(4);
        Checks.due(y.advance(1), 2);
        Checks.due(y.advance(4), 2);
        Checks.due(y.advance(300), 0);
        Checks.due(y.grantedCount(), 5);
    }

    private static void limitsAndMargins() {
        Checks.sentence("`limit`: the limit, 0 to 200");
        WishMarket x = Checks.market(SMALL + ";limit 0 9");
        int[] numbers = {0, 1, 199, 200, 0, 200};
        int previous = 9;
        for (int limit : numbers) {
            Checks.due(x.setLimit(0, limit), previous);
            Checks.due(x.shoppingLimit(0), limit);
            previous = limit;
        }
        Checks.sentence("`margin`: the margin in percent, 0 to 100");
        previous = 0;
        for (int margin : new int[] {0, 1, 99, 100, 0, 100}) {
            Checks.due(x.setMargin(0, margin), previous);
            Checks.due(x.margin(0), margin);
            previous = margin;
        }
        for (int wrong : new int[] {-1, Integer.MIN_VALUE, Integer.MAX_VALUE}) {
            Checks.thrown(Checks.ARGUMENT, () -> x.setLimit(0, wrong));
            Checks.thrown(Checks.ARGUMENT, () -> x.setMargin(0, wrong));
        }
        Checks.thrown(Checks.ARGUMENT, () -> x.setLimit(0, 201));
        Checks.thrown(Checks.ARGUMENT, () -> x.setMargin(0, 101));
        Checks.due(x.shoppingLimit(0), 200);
        Checks.due(x.margin(0), 100);
    }

    private static void eightChanges() {
        Checks.sentence("At most the latest 8 changes since the latest successful call of parseSetup or restoreState "
                + "can be undone.");
        for (int changes = 0; changes <= 27; changes++) {
            WishMarket x = Checks.market(SMALL);
            for (int i = 1; i <= changes; i++) {
                x.setLimit(0, i);
                Checks.due(x.undoCount(), Math.min(i, 8));
            }
            int undone = Math.min(changes, 8);
            for (int i = 1; i <= undone; i++) {
                Checks.due(x.undo(), undone - i);
                Checks.due(x.undoCount(), undone - i);
                Checks.due(x.shoppingLimit(0), changes - i);
            }
            Checks.thrown(Checks.STATE, () -> x.undo());
            Checks.due(x.shoppingLimit(0), changes - undone);
        }
    }

    private static void changesThatChangeNothing() {
        Checks.sentence("Each successful call of a method in the section \"changes\" above undo() can be undone, even "
                + "if it changed nothing.");
        Checks.CallOn[] changes = {x -> x.setLimit(0, 0), x -> x.setMargin(0, 0), x -> x.advance(1), x -> x.buy(0, 0),
            x -> x.sell(1, 0), x -> x.grant(1), x -> x.returnWish(2)};
        for (Checks.CallOn change : changes) {
            WishMarket x = Checks.market("market 9;stall 8 99 0 0;person a 99 0 0;wish u 9 0 at 0;wish v 9 0 with 0;"
                    + "wish w 9 0 at 0;buy 0 2");
            String before = Picture.withoutInput(x);
            change.answer(x);
            Checks.due(x.undoCount(), 1);
            Checks.due(x.undo(), 0);
            Checks.due(Picture.withoutInput(x), before);
        }
        // None of these is such a change.
        WishMarket x = Checks.market(SMALL);
        x.saveState(0);
        x.coinsAfter(0, 300);
        x.writeStall(0);
        x.append(1, 2, 3, 4, 5);
        Checks.due(x.undoCount(), 0);
        Checks.thrown(Checks.STATE, () -> x.undo());
    }

    private static void undoneAndChanged() {
        Checks.sentence("Undoes the latest change that has not been undone.");
        for (int start = 0; start < 240; start += 40) {
            undoneAndChanged(start);
        }
    }

    private static void undoneAndChanged(int start) {
        WishMarket x = Checks.market(SMALL);
        // The history as the document tells it: the states before the latest eight changes that have not been undone.
        List<Integer> history = new ArrayList<>();
        for (int i = start; i < start + 120; i++) {
            boolean change = i % 60 < 14 || i % 60 >= 30 && i % 3 != 0;
            if (change) {
                history.add(x.shoppingLimit(0));
                x.setLimit(0, i - start + 1);
                if (history.size() > 8) {
                    history.remove(0);
                }
            } else if (history.isEmpty()) {
                Checks.thrown(Checks.STATE, () -> x.undo());
            } else {
                int due = history.remove(history.size() - 1);
                Checks.due(x.undo(), history.size());
                Checks.due(x.shoppingLimit(0), due);
            }
            Checks.due(x.undoCount(), history.size());
        }
    }

    private static void savedStates() {
        Checks.sentence("Saves the state of the simulation in a slot. A state that was saved there before is lost.");
        WishMarket x = Checks.market(SMALL + ";advance 5");
        Checks.due(x.saveState(0), 5);
        x.advance(1);
        Checks.due(x.saveState(1), 6);
        x.advance(1);
        Checks.due(x.saveState(0), 7);
        x.undo();
        x.undo();
        Checks.due(x.day(), 5);
        // Undoing does not reach what is saved.
        Checks.due(x.restoreState(1), 6);
        Checks.due(x.restoreState(0), 7);
        Checks.sentence("It stays saved.");
        for (int i = 0; i < 3; i++) {
            x.advance(300);
            Checks.due(x.restoreState(1), 6);
            Checks.due(x.day(), 6);
            x.setLimit(0, 9);
            Checks.due(x.restoreState(0), 7);
            Checks.due(x.shoppingLimit(0), 0);
        }
        Checks.sentence("Throws `IllegalStateException` if no state is saved in the slot");
        WishMarket y = Checks.market(SMALL);
        Checks.thrown(Checks.STATE, () -> y.restoreState(0));
        Checks.thrown(Checks.STATE, () -> y.restoreState(1));
        y.saveState(1);
        Checks.thrown(Checks.STATE, () -> y.restoreState(0));
        Checks.due(y.restoreState(1), 0);
    }

    private static void restoredStates() {
        Checks.sentence("The undo history is cleared.");
        WishMarket x = Checks.market(SMALL);
        for (int i = 1; i <= 12; i++) {
            x.setLimit(0, i);
        }
        Checks.due(x.saveState(0), 0);
        Checks.due(x.undoCount(), 8);
        x.restoreState(0);
        Checks.due(x.undoCount(), 0);
        Checks.thrown(Checks.STATE, () -> x.undo());
        Checks.due(x.shoppingLimit(0), 12);
        for (int i = 1; i <= 9; i++) {
            x.setLimit(0, 20 + i);
            Checks.due(x.undoCount(), Math.min(i, 8));
        }
        for (int i = 8; i >= 1; i--) {
            x.undo();
            Checks.due(x.shoppingLimit(0), 20 + i);
        }
        Checks.thrown(Checks.STATE, () -> x.undo());
    }
}
