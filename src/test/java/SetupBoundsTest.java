/** Section 6: the bounds of tokens, numbers, names, limits and passes of a setup, sentence by sentence. */
public final class SetupBoundsTest {
    private static final String MARKET = "market 9;stall 8 99 0 0;stall 8 99 0 0;person a 99 0 9;person b 99 0 9;";
    /** All three wishes in a stall, all three owned by person 0, all three bought by person 0. */
    private static final String STOCK = MARKET + "wish x 9 0 at 0;wish y 9 0 at 0;wish z 9 0 at 0;";
    private static final String OWNED = MARKET + "wish x 9 0 with 0;wish y 9 0 with 0;wish z 9 0 with 0;";
    private static final String BOUGHT = STOCK + "buy 0 0;buy 0 1;buy 0 2;";

    public static void main(String[] args) {
        wordsAndNumbers();
        leadingZeros();
        numbersOfTheMarket();
        numbersOfTrades();
        numbersOfSettings();
        daysOfTheYear();
        whatDoesNotExist();
        nameLengths();
        takenNames();
        equalHabits();
        fullPlaces();
        obstacles();
        swaps();
        gifts();
        tooMany();
        nestedRepeats();
        passes();
        laterPasses();
        simulatedDays();
        missingAtTheEnd();
        firstError();
        smallestCode();
        inTheirOrder();
        withoutSettings();
        Checks.end();
    }

    private static void wordsAndNumbers() {
        Checks.sentence("The tokens of a setup are words of 1 to 7 lower-case letters, numbers of 1 to 3 digits");
        Checks.valid(MARKET + "advance 1;auction 8");
        Checks.syntaxError(MARKET + "^advances 1");
        Checks.syntaxError(MARKET + "^aadvance 1");
        Checks.syntaxError(MARKET + "^advanc 1");
        Checks.syntaxError(MARKET + "person c 0 0 0 ^bargains");
        Checks.syntaxError(MARKET + "person ^abcdefgh 0 0 0");
        Checks.syntaxError(MARKET + "person ^" + "a".repeat(400));
        Checks.valid(MARKET + "person c 999 8 099");
        Checks.syntaxError(MARKET + "person c ^1000 8 099");
        Checks.syntaxError(MARKET + "person c ^" + "0".repeat(400));
        Checks.syntaxError(MARKET + "person c ^" + "9".repeat(400));
        // As 32 bits these would be 0 and 9.
        Checks.syntaxError(MARKET + "person c ^4294967296 0 0");
        Checks.syntaxError("market ^4294967305;stall 1 0 0 0;person a 0 0 0");
        Checks.sentence("A word ends at the first byte that is not a lower-case letter, and a number ends at the "
                + "first byte that is not a digit.");
        Checks.valid("market9;stall1 0 0 0;person a0 0 0party bargain;wish abcdef1 0at0worn0;repeat1(fee0)");
        Checks.syntaxError(MARKET + "person c^A 0 0 0");
        Checks.syntaxError(MARKET + "person c^` 0 0 0");
        Checks.syntaxError(MARKET + "person c^{ 0 0 0");
        Checks.syntaxError(MARKET + "person c 0^/ 0 0");
        Checks.syntaxError(MARKET + "person c 0^: 0 0");
        Checks.syntaxError(MARKET + "person c 0^.0 0 0");
        Checks.syntaxError(MARKET + "person c ^-1 0 0");
        Checks.syntaxError(MARKET + "person c ^+1 0 0");
    }

    private static void leadingZeros() {
        Checks.sentence("Leading zeros are allowed.");
        WishMarket x = Checks.market("market 009;stall 01 099 005 007;person a 010 08 000;wish w 09 02 at 00 worn 009");
        Checks.due(x.yearLength(), 9);
        Checks.due(x.cash(0), 99);
        Checks.due(x.stars(0), 5);
        Checks.due(x.margin(0), 7);
        Checks.due(x.coins(0), 10);
        Checks.due(x.birthday(0), 8);
        Checks.due(x.candles(0), 0);
        Checks.due(x.baseValue(0), 9);
        Checks.due(x.strength(0), 2);
        Checks.due(x.wear(0), 9);
        Checks.syntaxError("market ^0009;stall 1 0 0 0;person a 0 0 0");
        Checks.syntaxError("market 9;stall ^0001 0 0 0;person a 0 0 0");
    }

    /** The mark # stands for the number; the first and the last value are valid, their neighbours are not. */
    private static void range(String text, int least, int greatest) {
        String before = text.substring(0, text.indexOf('#'));
        String behind = text.substring(text.indexOf('#') + 1);
        Checks.valid(before + least + behind);
        Checks.valid(before + greatest + behind);
        if (least < 10) {
            Checks.valid(before + "00" + least + behind);
        }
        if (least > 0) {
            Checks.rangeError(before + "^" + (least - 1) + behind);
            Checks.rangeError(before + "^000" + behind);
        }
        if (greatest < 999) {
            Checks.rangeError(before + "^" + (greatest + 1) + behind);
            Checks.rangeError(before + "^999" + behind);
        }
        Checks.syntaxError(before + "^1000" + behind);
        Checks.syntaxError(before + "^000" + least + behind);
    }

    private static void numbersOfTheMarket() {
        Checks.sentence("The ranges are: days of \"market\" 4 to 60");
        range("market #;stall 1 0 0 0;person a 0 0 0", 4, 60);
        Checks.sentence("capacity 1 to 8; cash 0 to 999; stars 0 to 50; margin 0 to 100");
        range(MARKET + "stall # 0 0 0", 1, 8);
        range(MARKET + "stall 1 # 0 0", 0, 999);
        range(MARKET + "stall 1 0 # 0", 0, 50);
        range(MARKET + "stall 1 0 0 #", 0, 100);
        Checks.sentence("coins of \"person\" 0 to 999, of \"limit\" 0 to 200;"
                + " birthday 0 to the number of days of a year minus 1; candles 0 to 99");
        range(MARKET + "person c # 0 0", 0, 999);
        range(MARKET + "person c 0 # 0", 0, 8);
        range(MARKET + "person c 0 0 #", 0, 99);
        Checks.sentence("base 1 to 99; strength 0 to 99; wear 0 to 9");
        range(MARKET + "wish w # 0 at 0", 1, 99);
        range(MARKET + "wish w 1 # at 0", 0, 99);
        range(MARKET + "wish w 1 0 at 0 worn #", 0, 9);
        range(MARKET + "wish w 1 0 with 0 worn #", 0, 9);
    }

    private static void numbersOfTrades() {
        Checks.sentence("A person, a stall or a wish must exist.");
        range(MARKET + "wish w 1 0 at #", 0, 1);
        range(MARKET + "wish w 1 0 with #", 0, 1);
        range(MARKET + "limit # 0", 0, 1);
        range(STOCK + "buy # 0", 0, 1);
        range(STOCK + "buy 0 #", 0, 2);
        range(OWNED + "sell # 0", 0, 2);
        range(OWNED + "sell 0 #", 0, 1);
        range(BOUGHT + "return #", 0, 2);
        range(OWNED + "grant #", 0, 2);
        range(OWNED + "rename # w", 0, 2);
        range(OWNED + "swap # 1", 0, 2);
        range(OWNED + "swap 1 #", 0, 2);
        range(OWNED + "gift # 1", 0, 2);
        range(OWNED + "person c 0 0 0;gift 0 1;gift 0 #", 0, 2);
        range(MARKET + "sale # 0", 0, 1);
    }

    private static void numbersOfSettings() {
        Checks.sentence("of \"regret\" 0 to 30, of \"advance\" 1 to 300");
        range(MARKET + "regret #", 0, 30);
        range(MARKET + "advance #", 1, 300);
        range(MARKET + "limit 0 #", 0, 200);
        Checks.sentence("percent of \"fee\" and \"tax\" 0 to 50, of \"sale\" 0 to 100; count 1 to 5");
        range(MARKET + "fee #", 0, 50);
        range(MARKET + "tax 0 #", 0, 50);
        range(MARKET + "sale 0 #", 0, 100);
        range(MARKET + "repeat #(fee 1)", 1, 5);
    }

    private static void daysOfTheYear() {
        Checks.sentence("day of \"auction\" and \"tax\" 0 to the number of days of a year minus 1");
        for (int year : new int[] {4, 5, 59, 60}) {
            String h = "market " + year + ";stall 1 0 0 0;person a 0 0 0;";
            range(h + "auction #", 0, year - 1);
            range(h + "tax # 0", 0, year - 1);
            range(h + "person b 0 # 0", 0, year - 1);
        }
    }

    private static void whatDoesNotExist() {
        Checks.sentence("A person, a stall or a wish must exist.");
        String nothing = "market 9;";
        for (String item : new String[] {"limit ^0 0", "buy ^0 0", "sell ^0 0", "return ^0", "grant ^0", "rename ^0 a",
            "swap ^0 0", "gift ^0 0", "sale ^0 0", "wish w 1 0 at ^0", "wish w 1 0 with ^0"}) {
            Checks.rangeError(nothing + item);
            Checks.rangeError(nothing + item + ";stall 1 0 0 0;person a 0 0 0;wish w 1 0 at 0");
        }
        Checks.rangeError(MARKET + "buy 0 ^0");
        Checks.rangeError(MARKET + "sell ^0 0");
    }

    private static void nameLengths() {
        Checks.sentence("A name is a word; its length must be at most 6.");
        for (String item : new String[] {"person # 0 0 0", "wish # 1 0 at 0", "rename 0 #"}) {
            String before = STOCK + item.substring(0, item.indexOf('#'));
            String behind = item.substring(item.indexOf('#') + 1);
            Checks.valid(before + "q" + behind);
            Checks.valid(before + "qqqqqq" + behind);
            Checks.rangeError(before + "^qqqqqqq" + behind);
            Checks.syntaxError(before + "^qqqqqqqq" + behind);
            Checks.valid(before + "zzzzzz" + behind);
            Checks.rangeError(before + "^advance" + behind);
            Checks.valid(before + "person" + behind);
            Checks.valid(before + "worn" + behind);
        }
    }

    private static void takenNames() {
        Checks.sentence("CONFLICT_ERROR: the name of another person or of another wish (also with \"rename\";"
                + " the name that the wish has already is allowed there)");
        for (int w = 0; w < 3; w++) {
            String[] names = {"x", "y", "z"};
            for (int other = 0; other < 3; other++) {
                if (w == other) {
                    Checks.valid(STOCK + "rename " + w + " " + names[other]);
                } else {
                    Checks.conflictError(STOCK + "rename " + w + " ^" + names[other]);
                }
            }
            Checks.conflictError(STOCK + "wish ^" + names[w] + " 1 0 at 0");
            // The name that was given up is free, the new one is taken.
            String renamed = STOCK + "rename " + w + " new;";
            Checks.valid(renamed + "wish " + names[w] + " 1 0 at 0");
            Checks.valid(renamed + "rename " + (w + 1) % 3 + " " + names[w]);
            Checks.conflictError(renamed + "wish ^new 1 0 at 0");
            Checks.conflictError(renamed + "rename " + (w + 1) % 3 + " ^new");
        }
        Checks.conflictError(MARKET + "person ^a 0 0 0");
        Checks.conflictError(MARKET + "person ^b 0 0 0");
        Checks.conflictError(STOCK + "rename 0^y");
        // A person may be called as a wish is, and a wish as a person: the name of another one of its kind is meant.
        Checks.valid(STOCK + "person x 0 0 0;wish b 1 0 at 0;rename 1 a;rename 2 c");
        Checks.valid(STOCK + "person y 0 0 0;person z 0 0 0;rename 1 y");
        // Granted and faded wishes are wishes still.
        Checks.conflictError(OWNED + "grant 0;wish ^x 1 0 at 0");
        Checks.conflictError(OWNED + "repeat 3(advance 30);rename 0 w;wish ^y 1 0 at 0");
        Checks.valid(OWNED + "grant 0;rename 0 w;wish x 1 0 at 0");
    }

    private static void equalHabits() {
        Checks.sentence("the second one of two equal habits of a person");
        Checks.valid(MARKET + "person c 0 0 0 party bargain;person d 0 0 0 party bargain");
        Checks.conflictError(MARKET + "person c 0 0 0 party ^party");
        Checks.conflictError(MARKET + "person c 0 0 0 bargain ^bargain party");
        Checks.conflictError(MARKET + "person c 0 0 0 party bargain ^party");
        Checks.conflictError(MARKET + "person c 0 0 0 bargain party ^party");
        Checks.conflictError(MARKET + "person c 0 0 0 bargain party ^bargain");
    }

    private static void fullPlaces() {
        Checks.sentence("the stall of \"at\" that is full, the person of \"with\" who owns 4 wishes");
        for (int capacity = 1; capacity <= 8; capacity++) {
            StringBuilder text = new StringBuilder("market 9;stall " + capacity + " 0 0 0;stall 1 0 0 0;"
                    + "person a 0 0 0");
            for (int i = 0; i < capacity; i++) {
                text.append(";wish w").append((char) ('a' + i)).append(" 1 0 at 0");
            }
            Checks.valid(text.toString());
            Checks.conflictError(text + ";wish more 1 0 at ^0");
            Checks.valid(text + ";wish more 1 0 at 1");
        }
        Checks.valid(OWNED + "wish w 1 0 with 0");
        Checks.conflictError(OWNED + "wish w 1 0 with 0;wish v 1 0 with ^0");
        Checks.valid(OWNED + "wish w 1 0 with 0;wish v 1 0 with 1");
        Checks.valid(OWNED + "wish w 1 0 with 0;grant 0;wish v 1 0 with 0");
    }

    private static void obstacles() {
        Checks.sentence("the last number of \"buy\", \"sell\", \"return\" and \"grant\" if there is an obstacle");
        Checks.conflictError(OWNED + "buy 1 ^0");
        Checks.conflictError(STOCK + "person c 3 0 0;buy 2 ^0");
        Checks.valid(STOCK + "person c 4 0 0;buy 2 0");
        Checks.conflictError(STOCK + "repeat 4(buy 0 ^0)");
        Checks.conflictError(OWNED + "wish w 1 0 with 0;wish v 1 0 at 0;buy 0 ^4");
        Checks.valid(OWNED + "wish v 1 0 at 0;buy 0 3");
        Checks.conflictError(STOCK + "sell 0 ^0");
        Checks.conflictError(OWNED + "stall 1 3 0 0;sell 0 ^2");
        Checks.valid(OWNED + "stall 1 4 0 0;sell 0 2");
        Checks.conflictError(OWNED + "stall 1 8 0 0;sell 0 2;sell 1 ^2");
        Checks.conflictError(STOCK + "return ^0");
        Checks.conflictError(OWNED + "return ^0");
        Checks.valid(BOUGHT + "advance 3;return 0");
        Checks.conflictError(BOUGHT + "advance 4;return ^0");
        Checks.conflictError(BOUGHT + "return 1;return ^1");
        Checks.conflictError(STOCK + "grant ^0");
        Checks.conflictError(OWNED + "advance 1;grant ^0");
        Checks.valid(OWNED + "advance 9;grant 0");
        Checks.valid(OWNED + "gift 2 1;wish w 1 9 with 0;grant 3");
        Checks.conflictError(OWNED + "wish w 1 10 with 0;grant ^3");
    }

    private static void swaps() {
        Checks.sentence("the first wish of \"swap\" that nobody owns, the second one that nobody owns or that is the "
                + "first one");
        String h = MARKET + "wish x 9 0 with 0;wish y 9 0 with 1;wish z 9 0 at 0;wish g 9 0 with 0;"
                + "wish f 9 0 with 0 worn 9;";
        Checks.valid(h + "swap 0 1;swap 1 0;swap 0 3");
        Checks.conflictError(h + "swap ^2 0");
        Checks.conflictError(h + "swap ^2 2");
        Checks.conflictError(h + "swap ^2 9");
        Checks.conflictError(h + "swap ^2");
        Checks.conflictError(h + "swap 0 ^2");
        Checks.conflictError(h + "swap 0 ^0");
        Checks.conflictError(h + "swap 1 ^1");
        Checks.conflictError(h + "grant 3;swap ^3 0");
        Checks.conflictError(h + "grant 3;swap 0 ^3");
        Checks.valid(h + "advance 8;swap 4 0");
        Checks.conflictError(h + "advance 9;swap ^4 0");
        Checks.conflictError(h + "advance 9;swap 0 ^4");
        // Two persons with four wishes each may swap.
        Checks.valid(MARKET + "repeat 1(wish p 1 0 with 0;wish q 1 0 with 0;wish r 1 0 with 0;wish s 1 0 with 0;"
                + "wish t 1 0 with 1;wish u 1 0 with 1;wish v 1 0 with 1;wish w 1 0 with 1;swap 0 4;swap 7 3)");
    }

    private static void gifts() {
        Checks.sentence("the wish of \"gift\" that nobody owns, the person of \"gift\" who is its owner or owns 4 "
                + "wishes");
        String h = MARKET + "wish x 9 0 with 0;wish y 9 0 with 1;wish z 9 0 at 0;wish p 1 0 with 1;wish q 1 0 with 1;";
        Checks.valid(h + "gift 0 1;gift 0 0;gift 1 0");
        Checks.conflictError(h + "gift ^2 0");
        Checks.conflictError(h + "gift ^2 9");
        Checks.conflictError(h + "gift ^2");
        Checks.conflictError(h + "gift 0 ^0");
        Checks.conflictError(h + "gift 1 ^1");
        Checks.conflictError(h + "grant 0;gift ^0 1");
        Checks.conflictError(h + "wish r 1 0 with 1;gift 0 ^1");
        Checks.conflictError(h + "gift 0 1;gift 0 ^1");
        Checks.conflictError(h + "gift 0 1;wish r 1 0 with 0;gift 5 ^1");
        Checks.valid(h + "wish r 1 0 with 1;gift 1 0;gift 0 1");
    }

    private static void tooMany() {
        Checks.sentence("LIMIT_ERROR: the word \"stall\" of a 6th stall, \"person\" of a 7th person, \"wish\" of a "
                + "17th wish");
        String stalls = "market 9;person a 9 0 0" + Setups.stalls(5);
        Checks.valid(stalls);
        for (String end : new String[] {"", " ", " 9", " 1 0 0 0", ";", " ?", "("}) {
            Checks.limitError(stalls + ";^stall" + end);
            Checks.limitError("market 9;stall 1 0 0 0" + Setups.persons(6) + ";^person" + end);
            Checks.limitError("market 9" + Setups.stalls(2) + Setups.persons(1) + Setups.wishes(16) + ";^wish" + end);
        }
        Checks.syntaxError(stalls + ";^stalls 1 0 0 0");
        // Granted and faded wishes count.
        Checks.limitError("market 9" + Setups.stalls(2) + Setups.persons(1) + Setups.wishes(15)
                + ";wish z 1 0 with 0;grant 15;repeat 1(advance 90);^wish y 1 0 at 0");
    }

    private static void nestedRepeats() {
        Checks.sentence("the word \"repeat\" that is in the brackets of three others");
        Checks.valid(MARKET + "repeat 1(repeat 1(repeat 1(fee 1)))");
        Checks.valid(MARKET + "repeat 2(repeat 2(repeat 2(fee 1);repeat 2(fee 1));repeat 2(repeat 2(fee 1)));"
                + "repeat 2(repeat 2(repeat 2(fee 1)))");
        for (String end : new String[] {"", " ", " 1(fee 1))))", " 9", "(", " ?"}) {
            Checks.limitError(MARKET + "repeat 1(repeat 1(repeat 1(^repeat" + end);
            Checks.limitError(MARKET + "repeat 1(repeat 1(repeat 1(fee 1;^repeat" + end);
            Checks.limitError(MARKET + "repeat 2(repeat 2(repeat 2(fee 1);repeat 2(^repeat" + end);
        }
        Checks.syntaxError(MARKET + "repeat 1(repeat 1(repeat 1(^repeats");
        Checks.syntaxError(MARKET + "repeat 1(repeat 1(repeat 1(fee 1 ^repeat");
    }

    private static void passes() {
        Checks.sentence("\"repeat\" lets the items in the brackets take effect several times");
        for (int count = 1; count <= 5; count++) {
            Checks.due(Checks.market(MARKET + "repeat " + count + "(advance 1)").day(), count);
            Checks.due(Checks.market(MARKET + "repeat " + count + "(advance 1;advance 10);advance 100").day(),
                    11 * count + 100);
            Checks.due(Checks.market(MARKET + "repeat " + count + "(repeat 5(repeat " + count
                    + "(advance 1);advance 10))").day(),
                    count * 5 * (count + 10));
        }
        Checks.due(Checks.market(MARKET + "repeat 5(repeat 5(repeat 5(advance 1)))").day(), 125);
        // A setup that broke off in brackets leaves no passes to the next one.
        WishMarket x = new WishMarket();
        for (String broken : new String[] {"?", "fee 51", "repeat 5(repeat 5(?"}) {
            Checks.thrown(Checks.ARGUMENT, () -> Checks.load(x, MARKET + "repeat 5(repeat 4(repeat 3(" + broken));
            Checks.load(x, MARKET + "repeat 2(repeat 1(repeat 2(advance 1);advance 10))");
            Checks.due(x.day(), 24);
        }
    }

    private static void laterPasses() {
        Checks.sentence("its text is parsed again each time, so that an error can occur in a later pass, at its "
                + "token.");
        for (int stalls = 0; stalls <= 5; stalls++) {
            for (int count = 1; count <= 5; count++) {
                String before = "market 9;person a 99 0 0" + Setups.stalls(stalls) + ";repeat " + count + "(";
                if (stalls + count <= 5) {
                    Checks.due(Checks.market(before + "stall 1 0 0 0)").stallCount(), stalls + count);
                } else {
                    Checks.limitError(before + "^stall 1 0 0 0)");
                    Checks.limitError(before + "fee 1;^stall 1 0 0 0) ?");
                }
            }
        }
        // Each pass costs five coins, a price of 9 less an offer of 4, so the coins tell in which pass they are too
        // few.
        for (int failing = 1; failing <= 5; failing++) {
            String before = "market 9;stall 8 99 0 100;stall 8 99 0 100;person a " + (8 + 5 * (failing - 1))
                    + " 0 0;wish w 9 0 at 0;repeat 1(repeat ";
            for (int count = 1; count <= 5; count++) {
                if (count < failing) {
                    Checks.valid(before + count + "(buy 0 0;sell 0 1))");
                } else {
                    Checks.conflictError(before + count + "(buy 0 ^0;sell 0 1))");
                }
            }
        }
        Checks.conflictError(MARKET + "repeat 2(person ^c 0 0 0)");
        Checks.conflictError(MARKET + "repeat 2(wish ^w 1 0 at 0)");
        Checks.conflictError(STOCK + "repeat 5(advance 1;buy 0 ^0)");
        Checks.conflictError(OWNED + "repeat 2(gift 0 ^1)");
        Checks.conflictError(OWNED + "repeat 2(grant ^0)");
        Checks.valid(STOCK + "repeat 5(buy 0 0;return 0)");
        Checks.valid(STOCK + "repeat 5(rename 0 w)");
        // What stands behind the brackets is read after the last pass only.
        Checks.conflictError(OWNED + "repeat 2(grant ^0);?");
        Checks.syntaxError(OWNED + "repeat 1(grant 0);^?");
    }

    private static void simulatedDays() {
        Checks.sentence("the days of \"advance\" with which all items would simulate more than 2000 days");
        String all = MARKET + "repeat 5(advance 300);advance 300;";
        Checks.due(Checks.market(all + "advance 200").day(), 2000);
        Checks.limitError(all + "advance ^201");
        Checks.limitError(all + "advance 200;advance ^1");
        Checks.due(Checks.market(all + "advance 199;advance 1").day(), 2000);
        Checks.limitError(all + "advance 199;advance 1;advance ^1");
        Checks.limitError(all + "advance ^300");
        Checks.due(Checks.market(MARKET + "repeat 5(repeat 5(repeat 5(advance 16)))").day(), 2000);
        Checks.limitError(MARKET + "repeat 5(repeat 5(repeat 5(advance ^17)))");
        Checks.limitError(MARKET + "advance 1;repeat 5(repeat 5(repeat 5(advance ^16)))");
        Checks.limitError(MARKET + "repeat 5(repeat 5(repeat 5(advance 16)));advance ^1");
        // Neither the setup before nor advance() counts.
        WishMarket x = new WishMarket();
        for (int i = 0; i < 3; i++) {
            Checks.load(x, all + "advance 200");
            x.advance(300);
            Checks.due(x.day(), 2300);
            Checks.thrown(Checks.ARGUMENT, () -> Checks.load(x, all + "advance 201"));
            Checks.due(x.parseErrorCode(), WishMarket.LIMIT_ERROR);
        }
    }

    private static void missingAtTheEnd() {
        Checks.sentence("the end of a setup without a stall or without a person.");
        for (String items : new String[] {"", ";stall 1 0 0 0", ";person a 0 0 0", ";fee 1", ";repeat 2(fee 1)",
            ";stall 1 0 0 0;wish w 1 0 at 0"}) {
            Checks.limitError("market 9" + items + "^");
            Checks.limitError("market 9" + items + "   ^");
        }
        Checks.valid("market 9;person a 0 0 0;stall 1 0 0 0");
        Checks.valid("market 9;repeat 1(stall 1 0 0 0;repeat 1(person a 0 0 0))");
    }

    private static void firstError() {
        Checks.sentence("Parsing stops at the first token that has an error.");
        Checks.limitError("market 9" + Setups.stalls(5) + ";^stall 0 ? 1234");
        Checks.conflictError(MARKET + "person ^a 1000 9 ?");
        Checks.rangeError(MARKET + "person c 0 ^9 100 ?;stall");
        Checks.rangeError(MARKET + "wish abcdef ^0 ? at 9");
        Checks.conflictError(STOCK + "sell 0 ^0;advance 301;?");
        Checks.limitError(MARKET + "repeat 5(advance 300);repeat 2(advance ^300;fee 50);?");
        Checks.rangeError(MARKET + "repeat 5(advance 300);repeat 2(advance 300;fee ^51);?");
        Checks.rangeError("market ^61;?");
        Checks.syntaxError("market 9^?;stall 9");
    }

    private static void smallestCode() {
        Checks.sentence("If several errors apply to a token, the error with the smallest code is reported.");
        // Not allowed here, and one too many.
        Checks.syntaxError("market 9" + Setups.stalls(5) + " ^stall");
        Checks.syntaxError("market 9" + Setups.persons(6) + " ^person");
        Checks.syntaxError("market 9" + Setups.stalls(2) + Setups.wishes(16) + " ^wish");
        Checks.syntaxError(MARKET + "repeat 1(repeat 1(repeat 1 ^repeat");
        Checks.syntaxError(MARKET + "repeat 1(repeat 1(repeat 1(fee ^repeat");
        // Ended too early, and without a stall or a person.
        Checks.syntaxError("market 9;^");
        Checks.syntaxError("market 9;repeat 1(fee 1^");
        Checks.syntaxError("market^");
        // Out of range, and more than 2000 days.
        Checks.rangeError(MARKET + "repeat 5(advance 300);advance 300;advance 200;advance ^301");
        Checks.limitError(MARKET + "repeat 5(advance 300);advance 300;advance 200;advance ^300");
        // Too many digits or letters, and out of range.
        Checks.syntaxError(MARKET + "advance ^1000");
        Checks.syntaxError(MARKET + "buy 0 ^1000");
        Checks.syntaxError(MARKET + "wish ^abcdefghi 1 0 at 0");
        // There is no such wish, and so there would be an obstacle.
        Checks.rangeError(STOCK + "buy 0 ^3");
        Checks.rangeError(OWNED + "sell 0 ^2");
        Checks.rangeError(OWNED + "gift 0 ^2");
    }

    private static void inTheirOrder() {
        Checks.sentence("The items take effect in their order.");
        Checks.rangeError("market 9;wish w 1 0 at ^0;stall 1 0 0 0;person a 0 0 0");
        Checks.rangeError("market 9;stall 1 0 0 0;limit ^0 9;person a 0 0 0");
        Checks.rangeError(MARKET + "wish w 1 0 at 0;buy 0 ^1;wish v 1 0 at 0");
        Checks.conflictError(OWNED + "wish w 1 0 with 0;wish v 1 0 with ^0;grant 0");
        Checks.valid(OWNED + "wish w 1 0 with 0;grant 0;wish v 1 0 with 0");
        Checks.valid(BOUGHT + "advance 4;regret 4;return 0;regret 3");
        Checks.conflictError(BOUGHT + "advance 4;return ^0;regret 4");
        WishMarket x = Checks.market(STOCK + "sale 0 100;buy 0 0;sale 0 0;buy 0 1;fee 50;return 0");
        Checks.due(x.margin(0), 0);
        Checks.due(x.coins(0), 99 - 9 + 4 - 4);
    }

    private static void withoutSettings() {
        Checks.sentence("The number of regret days is 3 and the return fee is 10 percent, if \"regret\" and \"fee\" "
                + "do not set them. The shopping limits are 0 at first");
        Checks.valid(BOUGHT + "advance 3;return 0");
        Checks.conflictError(BOUGHT + "advance 4;return ^0");
        WishMarket x = Checks.market("market 60;stall 8 0 50 0;person a 999 59 0;wish w 99 0 at 0;wish v 1 0 at 0;"
                + "buy 0 0");
        Checks.due(x.refund(0), 89);
        Checks.due(x.shoppingLimit(0), 0);
        Checks.sentence("without them there are no auctions and no taxes.");
        x.advance(59);
        x.advance(1);
        Checks.due(x.coins(0), 999 - 99);
        Checks.due(x.stallOf(1), 0);
        Checks.sentence("its wear is 0 without \"worn\".");
        Checks.due(Checks.market(MARKET + "wish w 1 0 at 0").wear(0), 0);
        Checks.due(Checks.market(MARKET + "wish w 1 0 with 0").wear(0), 0);
    }
}
