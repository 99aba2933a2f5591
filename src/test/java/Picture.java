import java.util.function.Supplier;

/** All that an object shows, as a text: of objects with equal pictures no call that only looks tells which is which. */
final class Picture {
    private static final int FAR = 23;

    private final WishMarket x;
    private final StringBuilder text = new StringBuilder();

    private Picture(WishMarket x) {
        this.x = x;
    }

    static String of(WishMarket x) {
        Picture picture = new Picture(x);
        picture.put("input", x.bufferLength(), x.parseErrorCode(), x.parseErrorPosition());
        return picture.text + withoutInput(x);
    }

    /** With neither the buffer nor the latest error of a setup. */
    static String withoutInput(WishMarket x) {
        Picture picture = new Picture(x);
        picture.output();
        picture.put("changes", x.undoCount());
        return picture.text + ofMarket(x);
    }

    /** Only the state of the simulation. */
    static String ofMarket(WishMarket x) {
        Picture picture = new Picture(x);
        if (picture.isLoaded()) {
            picture.market();
        }
        return picture.text.toString();
    }

    /**
     * Every state that can be brought back by undo and restoreState, too. Each is shown by an object of its own, since
     * no object is promised to bear more than 512 calls.
     */
    static String withPast(Supplier<WishMarket> makes) {
        StringBuilder all = new StringBuilder(withoutInput(makes.get()));
        int undoable = makes.get().undoCount();
        for (int undone = 1; undone <= undoable; undone++) {
            WishMarket x = makes.get();
            for (int i = 0; i < undone; i++) {
                all.append("undo ").append(x.undo()).append('\n');
            }
            all.append(ofMarket(x));
        }
        for (int slot = 0; slot < 2; slot++) {
            WishMarket x = makes.get();
            try {
                all.append("restore ").append(x.restoreState(slot)).append('\n').append(ofMarket(x));
            } catch (IllegalStateException e) {
                all.append("nothing is saved in ").append(slot).append('\n');
            }
        }
        return all.toString();
    }

    private void put(Object... answers) {
        for (Object answer : answers) {
            text.append(answer).append(' ');
        }
        text.append('\n');
    }

    private void output() {
        text.append("output ");
        try {
            for (int i = 0; i < 1000; i++) {
                text.append((char) x.outputByte(i));
            }
        } catch (IndexOutOfBoundsException e) {
            text.append('\n');
        }
    }

    private boolean isLoaded() {
        try {
            x.day();
            return true;
        } catch (IllegalStateException e) {
            return false;
        }
    }

    private void market() {
        put("day", x.day(), x.yearLength(), x.dayOfYear(), x.grantedCount(), x.fadedCount(), x.imbalance(),
                x.averageWear(), x.averageStars());
        for (int p = 0; p < x.personCount(); p++) {
            put("person", personName(p), x.coins(p), x.birthday(p), x.candles(p), x.happiness(p), x.ownedCount(p),
                    x.shoppingLimit(p), x.daysUntilBirthday(p), x.cheapestWish(p), x.bestGrant(p), x.coinsAfter(p, 1),
                    x.coinsAfter(p, FAR));
        }
        for (int s = 0; s < x.stallCount(); s++) {
            put("stall", x.cash(s), x.stars(s), x.margin(s), x.stockCount(s));
        }
        int wishes = wishCount();
        for (int w = 0; w < wishes; w++) {
            wish(w);
        }
    }

    private void wish(int w) {
        put("wish", Checks.wishName(x, w), x.baseValue(w), x.strength(w), x.wear(w), x.value(w), x.owner(w),
                x.stallOf(w), x.isGranted(w), x.purchaseDay(w), x.purchasePrice(w), x.price(w), x.refund(w));
        put("trades", x.returnObstacle(w), x.grantObstacle(w), x.bestOffer(w), x.daysUntilFaded(w), x.valueAfter(w, 1),
                x.valueAfter(w, FAR));
        for (int p = 0; p < x.personCount(); p++) {
            put("buyer", x.buyObstacle(p, w));
        }
        for (int s = 0; s < x.stallCount(); s++) {
            put("taker", x.offer(w, s), x.sellObstacle(w, s));
        }
    }

    private int wishCount() {
        for (int w = 0; w < 16; w++) {
            try {
                x.wear(w);
            } catch (IndexOutOfBoundsException e) {
                return w;
            }
        }
        return 16;
    }

    private String personName(int person) {
        StringBuilder name = new StringBuilder();
        for (int i = 0; x.personLetter(person, i) != WishMarket.NONE; i++) {
            name.append((char) x.personLetter(person, i));
        }
        return name.toString();
    }
}
