/** Promises 15 to 23: what a person tells. */
public final class PersonTest {
    private static final String SIX = "market 9;stall 8 99 0 0;person a 1 0 9;person bc 2 1 8;person def 3 2 7;"
            + "person ghij 4 3 6;person klmno 5 4 5;person pqrstz 999 8 99";

    public static void main(String[] args) {
        six();
        letters();
        changing();
        birthdays();
        indices();
        Checks.end();
    }

    private static void six() {
        WishMarket x = Checks.market(SIX);
        Checks.due(x.personCount(), 6);
        for (int p = 0; p < 5; p++) {
            Checks.due(x.coins(p), p + 1);
            Checks.due(x.birthday(p), p);
            Checks.due(x.candles(p), 9 - p);
            Checks.due(x.happiness(p), 0);
            Checks.due(x.ownedCount(p), 0);
            Checks.due(x.shoppingLimit(p), 0);
        }
        Checks.due(x.coins(5), 999);
        Checks.due(x.birthday(5), 8);
        Checks.due(x.candles(5), 99);
        Checks.due(Checks.market("market 9;stall 8 99 0 0;person a 1 0 9").personCount(), 1);
    }

    private static void letters() {
        WishMarket x = Checks.market(SIX);
        String[] names = {"a", "bc", "def", "ghij", "klmno", "pqrstz"};
        for (int p = 0; p < 6; p++) {
            for (int i = 0; i < names[p].length(); i++) {
                Checks.due(x.personLetter(p, i), (int) names[p].charAt(i));
            }
            Checks.due(x.personLetter(p, names[p].length()), WishMarket.NONE);
            Checks.due(x.personLetter(p, -1), WishMarket.NONE);
            Checks.due(x.personLetter(p, 7), WishMarket.NONE);
            Checks.due(x.personLetter(p, 13), WishMarket.NONE);
            Checks.due(x.personLetter(p, Integer.MAX_VALUE), WishMarket.NONE);
            Checks.due(x.personLetter(p, Integer.MIN_VALUE), WishMarket.NONE);
        }
    }

    private static void changing() {
        WishMarket x = Checks.market(SIX + ";wish v 30 7 with 0;wish w 25 9 with 0 worn 1;wish u 9 10 with 0");
        Checks.due(x.ownedCount(0), 3);
        Checks.due(x.ownedCount(1), 0);
        x.grant(0);
        Checks.due(x.happiness(0), 30);
        Checks.due(x.ownedCount(0), 2);
        x.grant(1);
        Checks.due(x.happiness(0), 52);
        Checks.due(x.candles(0), 9);
        x.advance(1);
        Checks.due(x.candles(0), 10);
        Checks.due(x.candles(1), 8);
        x.advance(1);
        Checks.due(x.candles(1), 9);
        x.advance(300);
        Checks.due(x.candles(0), 9 + 34);
        Checks.due(x.setLimit(0, 12), 0);
        Checks.due(x.shoppingLimit(0), 12);
    }

    private static void birthdays() {
        WishMarket x = Checks.market(SIX);
        for (int day = 0; day < 20; day++) {
            Checks.due(x.daysUntilBirthday(0), (18 - day % 9) % 9);
            Checks.due(x.daysUntilBirthday(4), (22 - day % 9) % 9);
            Checks.due(x.daysUntilBirthday(5), (26 - day % 9) % 9);
            x.advance(1);
        }
    }

    private static void indices() {
        WishMarket one = Checks.market("market 9;stall 8 99 0 0;person a 1 0 9");
        WishMarket six = Checks.market(SIX);
        for (int wrong : new int[] {-1, 1, 6, Integer.MIN_VALUE, Integer.MAX_VALUE}) {
            WishMarket x = wrong == 6 ? six : one;
            Checks.thrown(Checks.INDEX, () -> x.personLetter(wrong, 0));
            Checks.thrown(Checks.INDEX, () -> x.personLetter(wrong, -1));
            Checks.thrown(Checks.INDEX, () -> x.coins(wrong));
            Checks.thrown(Checks.INDEX, () -> x.birthday(wrong));
            Checks.thrown(Checks.INDEX, () -> x.candles(wrong));
            Checks.thrown(Checks.INDEX, () -> x.happiness(wrong));
            Checks.thrown(Checks.INDEX, () -> x.ownedCount(wrong));
            Checks.thrown(Checks.INDEX, () -> x.shoppingLimit(wrong));
            Checks.thrown(Checks.INDEX, () -> x.daysUntilBirthday(wrong));
            Checks.thrown(Checks.INDEX, () -> x.cheapestWish(wrong));
            Checks.thrown(Checks.INDEX, () -> x.bestGrant(wrong));
            Checks.thrown(Checks.INDEX, () -> x.writePerson(wrong));
        }
    }
}
