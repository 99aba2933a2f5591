/** Sections 1 and 2: the bounds of days, persons, stalls and wishes, and of what they cost, sentence by sentence. */
public final class MarketBoundsTest {
    private static final int NONE = WishMarket.NONE;

    public static void main(String[] args) {
        days();
        personsAndStalls();
        nameLetters();
        personNumbers();
        fourWishes();
        habits();
        capacities();
        starBounds();
        sixteenWishes();
        wishNumbers();
        goneForGood();
        values();
        prices();
        offers();
        refunds();
        Checks.end();
    }

    private static void days() {
        Checks.sentence("Days are numbered from 0.");
        Checks.due(Checks.market("market 4;stall 1 0 0 0;person a 0 0 0").day(), 0);
        Checks.sentence("A year has a fixed number of days; the day of the year is the current day modulo this "
                + "number.");
        for (int year : new int[] {4, 5, 59, 60}) {
            WishMarket x = Checks.market("market " + year + ";stall 1 0 0 0;person a 0 0 0");
            Checks.due(x.dayOfYear(), 0);
            for (int round = 1; round <= 3; round++) {
                x.advance(year - 1);
                Checks.due(x.dayOfYear(), year - 1);
                Checks.due(x.day(), round * year - 1);
                x.advance(1);
                Checks.due(x.dayOfYear(), 0);
                Checks.due(x.day(), round * year);
            }
            Checks.due(x.yearLength(), year);
        }
        // There is no last day: a setup may bring 2000, and each call 300 more.
        WishMarket x = Checks.market("market 7;stall 1 0 0 0;person a 0 0 0;repeat 5(advance 300);advance 300;"
                + "advance 200");
        for (int i = 1; i <= 400; i++) {
            x.advance(300);
            if (i % 40 == 0) {
                Checks.due(x.day(), 2000 + 300 * i);
                Checks.due(x.dayOfYear(), (2000 + 300 * i) % 7);
            }
        }
        Checks.due(x.candles(0), (2000 + 300 * 400 + 6) / 7);
    }

    private static void personsAndStalls() {
        Checks.sentence("There are 1 to 6 persons and 1 to 5 stalls, both numbered from 0 in the order of the setup.");
        for (int stalls = 0; stalls <= 6; stalls++) {
            for (int persons = 0; persons <= 7; persons++) {
                personsAndStalls(persons, stalls);
            }
        }
        WishMarket x = Checks.market("market 9;person a 1 0 0;stall 1 10 0 0;person b 2 0 0;person c 3 0 0;"
                + "stall 1 20 0 0");
        for (int p = 0; p < 3; p++) {
            Checks.due(x.coins(p), p + 1);
            Checks.due(x.personLetter(p, 0), 'a' + p);
        }
        Checks.due(x.cash(0), 10);
        Checks.due(x.cash(1), 20);
    }

    private static void personsAndStalls(int persons, int stalls) {
        String text = "market 9" + Setups.stalls(Math.min(stalls, 5));
        if (stalls > 5) {
            Checks.limitError(text + ";^stall 8 0 0 0" + Setups.persons(persons));
            return;
        }
        text += Setups.persons(Math.min(persons, 6));
        if (persons > 6) {
            Checks.limitError(text + ";^person z 0 0 0");
        } else if (persons == 0 || stalls == 0) {
            Checks.limitError(text + "^");
        } else {
            WishMarket x = Checks.market(text);
            Checks.due(x.personCount(), persons);
            Checks.due(x.stallCount(), stalls);
        }
    }

    private static void nameLetters() {
        Checks.sentence("A person has a name of 1 to 6 letters a to z");
        for (char letter = 'a'; letter <= 'z'; letter++) {
            for (int length = 1; length <= 6; length++) {
                named(String.valueOf(letter).repeat(length));
                named("az".repeat(3).substring(6 - length) + letter);
            }
        }
    }

    private static void named(String name) {
        if (name.length() == 7) {
            Checks.rangeError("market 9;stall 1 0 0 0;person ^" + name + " 0 0 0");
            Checks.rangeError("market 9;stall 1 0 0 0;person p 0 0 0;wish ^" + name + " 1 0 at 0");
            return;
        }
        WishMarket x = Checks.market("market 9;stall 1 0 0 0;person " + name + " 0 0 0;wish " + name + " 1 0 at 0");
        for (int i = -1; i <= 7; i++) {
            int due = i >= 0 && i < name.length() ? name.charAt(i) : NONE;
            Checks.due(x.personLetter(0, i), due);
            Checks.due(x.wishLetter(0, i), due);
        }
    }

    private static void personNumbers() {
        Checks.sentence("a birthday (a day of the year), a number of candles, a happiness, which is 0 at first");
        for (int year : new int[] {4, 60}) {
            String text = "market " + year + ";stall 1 0 0 0;person a 999 0 0;person b 0 " + (year - 1) + " 99";
            WishMarket x = Checks.market(text);
            Checks.due(x.birthday(0), 0);
            Checks.due(x.birthday(1), year - 1);
            Checks.due(x.candles(0), 0);
            Checks.due(x.candles(1), 99);
            Checks.due(x.coins(0), 999);
            Checks.due(x.coins(1), 0);
            Checks.due(x.happiness(0), 0);
            Checks.due(x.happiness(1), 0);
            Checks.due(x.shoppingLimit(0), 0);
            Checks.rangeError(text + ";person c 0 ^" + year + " 0");
        }
        Checks.sentence("No two persons have the same name.");
        String six = "market 9;stall 1 0 0 0" + Setups.persons(5);
        for (char letter = 'a'; letter <= 'e'; letter++) {
            Checks.conflictError(six + ";person ^p" + letter + " 0 0 0");
        }
        Checks.valid(six + ";person pf 0 0 0");
        Checks.valid(six + ";person p 0 0 0");
        Checks.valid(six + ";person paa 0 0 0");
    }

    private static void fourWishes() {
        Checks.sentence("A person owns at most 4 wishes.");
        String three = "market 4;stall 8 99 0 0;person a 99 0 0;person b 99 0 0;wish a 9 0 with 0;wish b 9 0 with 0;"
                + "wish c 9 0 with 0;wish d 9 0 with 1;wish e 9 0 at 0";
        String four = three + ";wish f 9 0 with 0 worn 9";
        Checks.due(Checks.market(four).ownedCount(0), 4);
        Checks.conflictError(four + ";wish g 9 0 with ^0");
        Checks.conflictError(four + ";gift 3 ^0");
        Checks.conflictError(four + ";buy 0 ^4");
        for (String third : new String[] {";wish g 9 0 with 0", ";gift 3 0", ";buy 0 4", ";limit 0 200;advance 1",
            ";auction 0;advance 1"}) {
            Checks.due(Checks.market(three + third).ownedCount(0), 4);
        }
        // A person with four neither shops nor bids.
        WishMarket x = Checks.market(four + ";limit 0 200;advance 1");
        Checks.due(x.ownedCount(0), 4);
        Checks.due(x.stallOf(4), 0);
        x = Checks.market(four + ";auction 0;advance 1");
        Checks.due(x.ownedCount(0), 4);
        Checks.due(x.owner(4), 1);
        // What leaves makes room.
        for (String leaves : new String[] {"sell 0 0", "grant 0", "gift 0 1", "advance 4"}) {
            x = Checks.market(four + ";" + leaves);
            Checks.due(x.ownedCount(0), 3);
            Checks.due(x.buyObstacle(0, 4), 0);
        }
    }

    private static void habits() {
        Checks.sentence("A person can be a celebrator or a bargainer or both.");
        String[] habits = {"", " party", " bargain", " party bargain", " bargain party"};
        for (String habit : habits) {
            // Wish 1 costs 49 and is worth an offer of 99 to the second stall.
            WishMarket x = Checks.market("market 9;stall 8 0 0 0;stall 8 99 50 0;person a 99 0 0" + habit
                    + ";wish a 9 0 with 0;wish b 99 99 at 0;buy 0 1");
            Checks.due(x.advance(1), habit.contains("party") ? 1 : 0);
            Checks.due(x.isGranted(0), habit.contains("party"));
            Checks.due(x.stallOf(1), habit.contains("bargain") ? 1 : NONE);
        }
    }

    private static void capacities() {
        Checks.sentence("A stall has a capacity (the greatest number of wishes in it)");
        for (int capacity = 1; capacity <= 8; capacity++) {
            StringBuilder text = new StringBuilder("market 9;stall " + capacity + " 99 0 0;stall 8 0 0 0;"
                    + "person a 99 0 0;wish x 2 0 with 0;wish y 20 0 at 0;buy 0 1");
            for (int i = 1; i < capacity; i++) {
                text.append(";wish w").append((char) ('a' + i)).append(" 9 0 at 0");
            }
            WishMarket x = Checks.market(text.toString());
            Checks.due(x.stockCount(0), capacity - 1);
            Checks.due(x.sellObstacle(0, 0), 0);
            Checks.due(x.returnObstacle(1), 0);
            text.append(";wish last 9 0 at 0");
            WishMarket full = Checks.market(text.toString());
            Checks.due(full.stockCount(0), capacity);
            Checks.due(full.sellObstacle(0, 0), 2);
            Checks.due(full.returnObstacle(1), 3);
            Checks.conflictError(text + ";wish more 9 0 at ^0");
            Checks.conflictError(text + ";sell 0 ^0");
            Checks.conflictError(text + ";return ^1");
            Checks.valid(text + ";wish more 9 0 at 1");
        }
    }

    private static void starBounds() {
        Checks.sentence("cash, stars from 0 to 50, and a margin in percent.");
        WishMarket x = Checks.market("market 9;stall 8 99 50 0;stall 8 99 0 0;stall 8 99 49 0;person a 999 0 0;"
                + "wish a 9 0 at 0;wish b 9 0 at 1;wish c 9 0 at 2;wish d 9 0 at 2");
        int[] after = {50, 1, 50};
        for (int w = 0; w < 3; w++) {
            x.buy(0, w);
            Checks.due(x.stars(w), after[w]);
        }
        x.buy(0, 3);
        Checks.due(x.stars(2), 50);
        int[] returned = {48, 0, 48};
        for (int w = 0; w < 3; w++) {
            x.returnWish(w);
            Checks.due(x.stars(w), returned[w]);
        }
    }

    private static void sixteenWishes() {
        Checks.sentence("There are at most 16 wishes, numbered from 0 in the order in which they are created.");
        String text = "market 9" + Setups.stalls(2) + Setups.persons(1);
        for (int count = 0; count <= 16; count++) {
            WishMarket x = new WishMarket();
            Checks.due(Checks.load(x, text + Setups.wishes(count)), count);
            for (int w = 0; w < count; w++) {
                Checks.due(x.wishLetter(w, 1), 'a' + w);
                Checks.due(x.stallOf(w), w / 8);
            }
            Checks.thrown(Checks.INDEX, () -> x.wear(x.stockCount(0) + x.stockCount(1)));
        }
        Checks.limitError(text + Setups.wishes(16) + ";^wish wq 9 0 with 0");
        Checks.limitError(text + Setups.wishes(16) + ";buy 0 0;^wish wq 9 0 at 0");
        Checks.sentence("No two wishes have the same name.");
        for (char letter = 'a'; letter <= 'o'; letter++) {
            Checks.conflictError(text + Setups.wishes(15) + ";wish ^w" + letter + " 1 0 at 1");
        }
        Checks.valid(text + Setups.wishes(15) + ";wish wp 1 0 at 1");
        Checks.valid(text + Setups.wishes(15) + ";wish w 1 0 at 1");
        // A person's name is not a wish's.
        Checks.valid(text + Setups.wishes(15) + ";wish pa 1 0 at 1");
    }

    private static void wishNumbers() {
        Checks.sentence("A wish has a name of 1 to 6 letters a to z, a base value, a strength, and a wear from 0 to "
                + "10.");
        WishMarket x = Checks.market("market 4;stall 8 0 0 0;person a 0 0 0;wish a 1 0 at 0;wish b 99 99 at 0 worn 9;"
                + "wish c 50 50 with 0 worn 0");
        int[][] due = {{1, 0, 0}, {99, 99, 9}, {50, 50, 0}};
        for (int w = 0; w < 3; w++) {
            Checks.due(x.baseValue(w), due[w][0]);
            Checks.due(x.strength(w), due[w][1]);
            Checks.due(x.wear(w), due[w][2]);
        }
        x.advance(300);
        for (int w = 0; w < 3; w++) {
            Checks.due(x.wear(w), 10);
            Checks.due(x.baseValue(w), due[w][0]);
            Checks.due(x.strength(w), due[w][1]);
        }
    }

    private static void goneForGood() {
        Checks.sentence("Granted and faded wishes stay so.");
        WishMarket x = Checks.market("market 4;stall 8 99 0 0;person a 99 0 9 party bargain;wish a 9 0 with 0;"
                + "wish b 9 99 at 0 worn 9;limit 0 200;auction 1;grant 0;advance 4");
        for (int i = 0; i < 9; i++) {
            Checks.due(x.isGranted(0), true);
            Checks.due(x.isGranted(1), false);
            Checks.due(x.grantedCount(), 1);
            Checks.due(x.fadedCount(), 1);
            for (int w = 0; w < 2; w++) {
                int wish = w;
                Checks.due(x.owner(w), NONE);
                Checks.due(x.stallOf(w), NONE);
                Checks.thrown(Checks.ARGUMENT, () -> x.buy(0, wish));
                Checks.thrown(Checks.ARGUMENT, () -> x.sell(wish, 0));
                Checks.thrown(Checks.ARGUMENT, () -> x.returnWish(wish));
                Checks.thrown(Checks.ARGUMENT, () -> x.grant(wish));
            }
            x.advance(4);
        }
        Checks.due(x.wear(0), 0);
        Checks.due(x.wear(1), 10);
        Checks.due(x.imbalance(), 0);
    }

    private static void values() {
        Checks.sentence("The value of a wish is its base value times 10 minus its wear (the subtraction comes first), "
                + "divided by 10 and rounded down.");
        for (int base : new int[] {1, 2, 9, 10, 11, 19, 50, 98, 99}) {
            WishMarket x = Checks.market("market 4;stall 1 0 0 0;person a 0 0 0;wish w " + base + " 0 at 0");
            for (int wear = 0; wear <= 10; wear++) {
                Checks.due(x.value(0), base * (10 - wear) / 10);
                x.advance(4);
            }
            Checks.due(x.value(0), 0);
        }
    }

    private static int price(String stall, String wish) {
        return Checks.market("market 4;stall 1 0 " + stall + ";person a 0 0 0;wish w " + wish).price(0);
    }

    private static void prices() {
        Checks.sentence("divided by 100000 and rounded down; it is 1 if the result is 0.");
        // 0.05, 0.9975, 1, 1.995, 2, 3, 9.99999, 198
        Checks.due(price("0 0", "1 0 at 0 worn 9"), 1);
        Checks.due(price("7 5", "5 0 at 0 worn 7"), 1);
        Checks.due(price("0 0", "2 0 at 0"), 1);
        Checks.due(price("7 75", "2 0 at 0"), 1);
        Checks.due(price("0 0", "4 0 at 0"), 2);
        Checks.due(price("0 0", "6 0 at 0 worn 0"), 3);
        Checks.due(price("41 11", "11 0 at 0 worn 1"), 9);
        Checks.due(price("50 100", "99 0 at 0"), 198);
        Checks.sentence("The price of a wish in a stall is the base value, times 10 minus the wear, times 100 plus "
                + "the margin, times 50 plus the stars");
        for (int base : new int[] {1, 3, 50, 99}) {
            for (int wear : new int[] {0, 1, 5, 9}) {
                for (int stars : new int[] {0, 1, 33, 49, 50}) {
                    WishMarket x = Checks.market("market 4;stall 1 0 " + stars + " 0;person a 0 0 0;wish w " + base
                            + " 0 at 0 worn " + wear);
                    for (int margin : new int[] {0, 1, 50, 99, 100}) {
                        x.setMargin(0, margin);
                        int due = base * (10 - wear) * (100 + margin) * (50 + stars) / 100000;
                        Checks.due(x.price(0), due < 1 ? 1 : due);
                    }
                }
            }
        }
    }

    private static int offer(int stars, String wish) {
        return Checks.market("market 4;stall 1 0 " + stars + " 100;person a 0 0 0;wish w " + wish).offer(0, 0);
    }

    private static void offers() {
        Checks.sentence("The offer of a stall for a wish is the base value, times 10 minus the wear, times 50 plus "
                + "the stars, divided by 1000 and rounded down.");
        // 0.05, 0.5, 0.999, 1, 1.998, 2, 49.5, 99; the margin does not count.
        Checks.due(offer(0, "1 0 with 0 worn 9"), 0);
        Checks.due(offer(0, "1 0 with 0"), 0);
        Checks.due(offer(24, "27 0 with 0 worn 5"), 9);
        Checks.due(offer(50, "1 0 with 0"), 1);
        Checks.due(offer(24, "9 0 with 0 worn 7"), 1);
        Checks.due(offer(50, "10 0 with 0 worn 8"), 2);
        Checks.due(offer(0, "99 0 with 0"), 49);
        Checks.due(offer(50, "99 0 with 0"), 99);
        for (int base : new int[] {1, 3, 50, 99}) {
            for (int wear : new int[] {0, 1, 5, 9}) {
                for (int stars : new int[] {0, 1, 33, 49, 50}) {
                    Checks.due(offer(stars, base + " 0 with 0 worn " + wear), base * (10 - wear) * (50 + stars) / 1000);
                }
            }
        }
    }

    private static void refunds() {
        Checks.sentence("The refund for a wish is its purchase price times 100 minus the return fee, divided by 100 "
                + "and rounded down.");
        // The prices 1, 2, 10, 99 and 198, with the least, the greatest and the ordinary fee.
        int[][] dues = {{0, 1, 2, 10, 99, 198}, {1, 0, 1, 9, 98, 196}, {10, 0, 1, 9, 89, 178}, {49, 0, 1, 5, 50, 100},
            {50, 0, 1, 5, 49, 99}};
        String[] wishes = {"1 0 at 0", "1 0 at 1", "10 0 at 0", "99 0 at 0", "99 0 at 1"};
        for (int[] due : dues) {
            for (int i = 0; i < wishes.length; i++) {
                WishMarket x = Checks.market("market 4;stall 1 0 50 0;stall 1 0 50 100;person a 999 0 0;wish w "
                        + wishes[i] + ";fee " + due[0] + ";buy 0 0");
                Checks.due(x.refund(0), due[i + 1]);
            }
        }
        WishMarket x = Checks.market("market 4;stall 1 0 50 0;person a 999 0 0;wish w 99 0 at 0;buy 0 0");
        Checks.due(x.refund(0), 89);
    }
}
