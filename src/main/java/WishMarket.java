/**
 * A simulator of a second-hand market in which wishes are bought, sold, returned, and granted once, on the
 * birthday of their owner.
 *
 * <p>Every object that a run needs is made in the constructors and used again: a call makes no object of its own but
 * the exception that it throws.
 */
public final class WishMarket {
    public static final int NONE = -1;
    public static final int SYNTAX_ERROR = 1;
    public static final int RANGE_ERROR = 2;
    public static final int CONFLICT_ERROR = 3;
    public static final int LIMIT_ERROR = 4;

    private static final int BUFFER_SIZE = 500;
    private static final int APPENDED_BYTES = 20;
    private static final int MOST_PERSONS = 6;
    private static final int MOST_STALLS = 5;
    private static final int MOST_WISHES = 16;
    private static final int MOST_OWNED = 4;
    private static final int MOST_STARS = 50;
    private static final int FADED_WEAR = 10;
    private static final int LONGEST_NAME = 6;
    private static final int LONGEST_WORD = 7;
    private static final int LONGEST_NUMBER = 3;
    private static final int BITS_OF_LETTER = 5;
    private static final int LETTER_MASK = 31;
    private static final int BEFORE_A = 'a' - 1;
    private static final int MOST_DAYS = 300;
    private static final int MOST_SETUP_DAYS = 2000;
    private static final int MOST_LIMIT = 200;
    private static final int MOST_MARGIN = 100;
    private static final int MOST_OPEN_REPEATS = 3;
    /** Far above what 500 bytes in three nested "repeat 5" can bring. */
    private static final int MOST_ITEMS = 1000000;
    private static final int UNDO_DEPTH = 8;
    private static final int SLOTS = 2;
    private static final Item[] ITEMS = Item.values();

    private final SetupReader reader = new SetupReader();
    private final Market market = new Market();
    private final Market forecast = new Market();
    private final Market[] history = new Market[UNDO_DEPTH];
    private final Market[] saved = new Market[SLOTS];
    private final boolean[] isSaved = new boolean[SLOTS];
    private final StringBuilder output = new StringBuilder();
    private boolean loaded;
    private int undoable;
    private int newest;

    public WishMarket() {
        for (int i = 0; i < UNDO_DEPTH; i++) {
            history[i] = new Market();
        }
        for (int i = 0; i < SLOTS; i++) {
            saved[i] = new Market();
        }
    }

    // ---- input buffer and setup

    public int append(int a, int b, int c, int d, int e) {
        Tokens tokens = reader.tokens;
        if (tokens.filled + APPENDED_BYTES > BUFFER_SIZE) {
            return NONE;
        }
        tokens.putFourBytes(a);
        tokens.putFourBytes(b);
        tokens.putFourBytes(c);
        tokens.putFourBytes(d);
        tokens.putFourBytes(e);
        return tokens.filled;
    }

    public int parseSetup(int length) throws IndexOutOfBoundsException, IllegalArgumentException {
        if (length < 0 || length > reader.tokens.filled) {
            throw new IndexOutOfBoundsException("the buffer holds no such number of bytes");
        }
        boolean valid = reader.read(length);
        reader.tokens.filled = 0;
        if (!valid) {
            throw new IllegalArgumentException("the setup is invalid");
        }
        market.copyFrom(reader.draft);
        loaded = true;
        undoable = 0;
        for (int i = 0; i < SLOTS; i++) {
            isSaved[i] = false;
        }
        return market.wishCount;
    }

    public int parseErrorCode() {
        return reader.errorCode;
    }

    public int parseErrorPosition() {
        return reader.errorPosition;
    }

    public int bufferLength() {
        return reader.tokens.filled;
    }

    // ---- calendar and accounts

    public int day() throws IllegalStateException {
        return loadedMarket().day;
    }

    public int yearLength() throws IllegalStateException {
        return loadedMarket().yearLength;
    }

    public int dayOfYear() throws IllegalStateException {
        return loadedMarket().today();
    }

    public int grantedCount() throws IllegalStateException {
        return loadedMarket().countGranted();
    }

    public int fadedCount() throws IllegalStateException {
        return loadedMarket().countFaded();
    }

    public int imbalance() throws IllegalStateException {
        Market checked = loadedMarket();
        return Math.abs(checked.money() - checked.createdMoney) + checked.countMisplaced();
    }

    public double averageWear() throws IllegalStateException {
        return loadedMarket().meanWear();
    }

    public float averageStars() throws IllegalStateException {
        return loadedMarket().meanStars();
    }

    // ---- persons

    public int personCount() throws IllegalStateException {
        return loadedMarket().personCount;
    }

    public int personLetter(int person, int index) throws IllegalStateException, IndexOutOfBoundsException {
        return letterOf(personAt(person).name, index);
    }

    public int coins(int person) throws IllegalStateException, IndexOutOfBoundsException {
        return personAt(person).coins;
    }

    public int birthday(int person) throws IllegalStateException, IndexOutOfBoundsException {
        return personAt(person).birthday;
    }

    public int candles(int person) throws IllegalStateException, IndexOutOfBoundsException {
        return personAt(person).candles;
    }

    public int happiness(int person) throws IllegalStateException, IndexOutOfBoundsException {
        return personAt(person).happiness;
    }

    public int ownedCount(int person) throws IllegalStateException, IndexOutOfBoundsException {
        checkPerson(person);
        return market.ownedBy(person);
    }

    public int shoppingLimit(int person) throws IllegalStateException, IndexOutOfBoundsException {
        return personAt(person).limit;
    }

    public int daysUntilBirthday(int person) throws IllegalStateException, IndexOutOfBoundsException {
        int wait = personAt(person).birthday - market.today();
        return wait < 0 ? wait + market.yearLength : wait;
    }

    // ---- stalls

    public int stallCount() throws IllegalStateException {
        return loadedMarket().stallCount;
    }

    public int cash(int stall) throws IllegalStateException, IndexOutOfBoundsException {
        return stallAt(stall).cash;
    }

    public int stars(int stall) throws IllegalStateException, IndexOutOfBoundsException {
        return stallAt(stall).stars;
    }

    public int margin(int stall) throws IllegalStateException, IndexOutOfBoundsException {
        return stallAt(stall).margin;
    }

    public int stockCount(int stall) throws IllegalStateException, IndexOutOfBoundsException {
        checkStall(stall);
        return market.stockOf(stall);
    }

    // ---- wishes

    public int wishLetter(int wish, int index) throws IllegalStateException, IndexOutOfBoundsException {
        return letterOf(wishAt(wish).name, index);
    }

    public int baseValue(int wish) throws IllegalStateException, IndexOutOfBoundsException {
        return wishAt(wish).base;
    }

    public int strength(int wish) throws IllegalStateException, IndexOutOfBoundsException {
        return wishAt(wish).strength;
    }

    public int wear(int wish) throws IllegalStateException, IndexOutOfBoundsException {
        return wishAt(wish).wear;
    }

    public int value(int wish) throws IllegalStateException, IndexOutOfBoundsException {
        return wishAt(wish).worth();
    }

    public int owner(int wish) throws IllegalStateException, IndexOutOfBoundsException {
        return wishAt(wish).owner;
    }

    public int stallOf(int wish) throws IllegalStateException, IndexOutOfBoundsException {
        return wishAt(wish).stall;
    }

    public boolean isGranted(int wish) throws IllegalStateException, IndexOutOfBoundsException {
        return wishAt(wish).granted;
    }

    public int purchaseDay(int wish) throws IllegalStateException, IndexOutOfBoundsException {
        return wishAt(wish).boughtOn;
    }

    public int purchasePrice(int wish) throws IllegalStateException, IndexOutOfBoundsException {
        return wishAt(wish).boughtFor;
    }

    // ---- prices and obstacles

    public int price(int wish) throws IllegalStateException, IndexOutOfBoundsException {
        checkWish(wish);
        return market.priceOf(wish);
    }

    public int offer(int wish, int stall) throws IllegalStateException, IndexOutOfBoundsException {
        checkWish(wish);
        checkStall(stall);
        return market.wishes[wish].owner == NONE ? NONE : market.offerFor(wish, stall);
    }

    public int refund(int wish) throws IllegalStateException, IndexOutOfBoundsException {
        checkWish(wish);
        return market.refundFor(wish);
    }

    public int buyObstacle(int person, int wish) throws IllegalStateException, IndexOutOfBoundsException {
        checkPerson(person);
        checkWish(wish);
        return market.obstacleToBuy(person, wish);
    }

    public int sellObstacle(int wish, int stall) throws IllegalStateException, IndexOutOfBoundsException {
        checkWish(wish);
        checkStall(stall);
        return market.obstacleToSell(wish, stall);
    }

    public int returnObstacle(int wish) throws IllegalStateException, IndexOutOfBoundsException {
        checkWish(wish);
        return market.obstacleToReturn(wish);
    }

    public int grantObstacle(int wish) throws IllegalStateException, IndexOutOfBoundsException {
        checkWish(wish);
        return market.obstacleToGrant(wish);
    }

    // ---- searches and predictions; these methods change nothing

    public int cheapestWish(int person) throws IllegalStateException, IndexOutOfBoundsException {
        int coins = personAt(person).coins;
        return market.cheapestFor(person, coins);
    }

    public int bestGrant(int person) throws IllegalStateException, IndexOutOfBoundsException {
        checkPerson(person);
        return market.bestGrantFor(person);
    }

    public int bestOffer(int wish) throws IllegalStateException, IndexOutOfBoundsException {
        checkWish(wish);
        return market.bestStallFor(wish);
    }

    public int coinsAfter(int person, int days)
            throws IllegalStateException, IndexOutOfBoundsException, IllegalArgumentException {
        checkPerson(person);
        checkRange(days, 0, MOST_DAYS);
        forecast.copyFrom(market);
        forecast.simulate(days);
        return forecast.persons[person].coins;
    }

    public int valueAfter(int wish, int days)
            throws IllegalStateException, IndexOutOfBoundsException, IllegalArgumentException {
        checkWish(wish);
        checkRange(days, 0, MOST_DAYS);
        forecast.copyFrom(market);
        forecast.simulate(days);
        return forecast.wishes[wish].worth();
    }

    public int daysUntilFaded(int wish) throws IllegalStateException, IndexOutOfBoundsException {
        Wish asked = wishAt(wish);
        if (asked.granted) {
            return NONE;
        }
        if (asked.faded) {
            return 0;
        }
        return (FADED_WEAR - asked.wear) * market.yearLength - market.today();
    }

    // ---- text output

    public int writeStall(int stall) throws IllegalStateException, IndexOutOfBoundsException {
        checkStall(stall);
        output.setLength(0);
        for (int w = 0; w < market.wishCount; w++) {
            if (market.wishes[w].stall == stall) {
                if (output.length() > 0) {
                    output.append(' ');
                }
                writeName(market.wishes[w].name);
                output.append('=');
                output.append(market.priceOf(w));
            }
        }
        if (output.length() == 0) {
            output.append('-');
        }
        return output.length();
    }

    public int writePerson(int person) throws IllegalStateException, IndexOutOfBoundsException {
        Person written = personAt(person);
        output.setLength(0);
        writeName(written.name);
        output.append(':');
        output.append(written.coins);
        for (int w = 0; w < market.wishCount; w++) {
            if (market.wishes[w].owner == person) {
                output.append(' ');
                writeName(market.wishes[w].name);
            }
        }
        return output.length();
    }

    public int outputByte(int index) throws IndexOutOfBoundsException {
        if (index < 0 || index >= output.length()) {
            throw new IndexOutOfBoundsException("there is no such byte of the output");
        }
        return output.charAt(index);
    }

    // ---- changes; each one can be undone

    public int advance(int days) throws IllegalStateException, IllegalArgumentException {
        Market changed = loadedMarket();
        checkRange(days, 1, MOST_DAYS);
        rememberForUndo();
        return changed.simulate(days);
    }

    public int buy(int person, int wish)
            throws IllegalStateException, IndexOutOfBoundsException, IllegalArgumentException {
        checkPerson(person);
        checkWish(wish);
        checkObstacle(market.obstacleToBuy(person, wish));
        rememberForUndo();
        return market.carryOutPurchase(person, wish);
    }

    public int sell(int wish, int stall)
            throws IllegalStateException, IndexOutOfBoundsException, IllegalArgumentException {
        checkWish(wish);
        checkStall(stall);
        checkObstacle(market.obstacleToSell(wish, stall));
        rememberForUndo();
        return market.carryOutSale(wish, stall);
    }

    public int returnWish(int wish)
            throws IllegalStateException, IndexOutOfBoundsException, IllegalArgumentException {
        checkWish(wish);
        checkObstacle(market.obstacleToReturn(wish));
        rememberForUndo();
        return market.carryOutReturn(wish);
    }

    public int grant(int wish) throws IllegalStateException, IndexOutOfBoundsException, IllegalArgumentException {
        checkWish(wish);
        checkObstacle(market.obstacleToGrant(wish));
        rememberForUndo();
        return market.carryOutGrant(wish);
    }

    public int setLimit(int person, int limit)
            throws IllegalStateException, IndexOutOfBoundsException, IllegalArgumentException {
        Person changed = personAt(person);
        checkRange(limit, 0, MOST_LIMIT);
        rememberForUndo();
        int previous = changed.limit;
        changed.limit = limit;
        return previous;
    }

    public int setMargin(int stall, int margin)
            throws IllegalStateException, IndexOutOfBoundsException, IllegalArgumentException {
        Stall changed = stallAt(stall);
        checkRange(margin, 0, MOST_MARGIN);
        rememberForUndo();
        int previous = changed.margin;
        changed.margin = margin;
        return previous;
    }

    public int undo() throws IllegalStateException {
        if (undoable == 0) {
            throw new IllegalStateException("there is nothing to undo");
        }
        market.copyFrom(history[newest]);
        newest = (newest + UNDO_DEPTH - 1) % UNDO_DEPTH;
        undoable--;
        return undoable;
    }

    public int undoCount() {
        return undoable;
    }

    public int saveState(int slot) throws IllegalStateException, IndexOutOfBoundsException {
        Market kept = loadedMarket();
        checkIndex(slot, SLOTS);
        saved[slot].copyFrom(kept);
        isSaved[slot] = true;
        return kept.day;
    }

    public int restoreState(int slot) throws IndexOutOfBoundsException, IllegalStateException {
        checkIndex(slot, SLOTS);
        if (!isSaved[slot]) {
            throw new IllegalStateException("no state is saved in the slot");
        }
        market.copyFrom(saved[slot]);
        undoable = 0;
        return market.day;
    }

    // ---- what the calls above share

    private Market loadedMarket() {
        if (!loaded) {
            throw new IllegalStateException("no setup has been loaded");
        }
        return market;
    }

    private void checkPerson(int person) {
        checkIndex(person, loadedMarket().personCount);
    }

    private void checkStall(int stall) {
        checkIndex(stall, loadedMarket().stallCount);
    }

    private void checkWish(int wish) {
        checkIndex(wish, loadedMarket().wishCount);
    }

    private static void checkIndex(int index, int count) {
        if (index < 0 || index >= count) {
            throw new IndexOutOfBoundsException("there is no such index");
        }
    }

    private Person personAt(int person) {
        checkPerson(person);
        return market.persons[person];
    }

    private Stall stallAt(int stall) {
        checkStall(stall);
        return market.stalls[stall];
    }

    private Wish wishAt(int wish) {
        checkWish(wish);
        return market.wishes[wish];
    }

    private static void checkRange(int number, int least, int greatest) {
        if (number < least || number > greatest) {
            throw new IllegalArgumentException("a number is out of range");
        }
    }

    private static void checkObstacle(int obstacle) {
        if (obstacle != 0) {
            throw new IllegalArgumentException("there is an obstacle");
        }
    }

    private void rememberForUndo() {
        newest = (newest + 1) % UNDO_DEPTH;
        history[newest].copyFrom(market);
        undoable = Math.min(undoable + 1, UNDO_DEPTH);
    }

    private void writeName(int name) {
        for (int i = 0; i < LONGEST_NAME; i++) {
            int letter = letterOf(name, i);
            if (letter != NONE) {
                output.append((char) letter);
            }
        }
    }

    private static int letterOf(int name, int index) {
        if (index < 0 || index >= LONGEST_NAME) {
            return NONE;
        }
        int code = (name >> (index * BITS_OF_LETTER)) & LETTER_MASK;
        return code == 0 ? NONE : BEFORE_A + code;
    }

    private static final class Person {
        /** Five bits a letter, the first one lowest: a name so costs no object, and names compare as numbers. */
        int name;
        int coins;
        int birthday;
        int candles;
        int happiness;
        int limit;
        boolean celebrator;
        boolean bargainer;

        void copyFrom(Person other) {
            name = other.name;
            coins = other.coins;
            birthday = other.birthday;
            candles = other.candles;
            happiness = other.happiness;
            limit = other.limit;
            celebrator = other.celebrator;
            bargainer = other.bargainer;
        }
    }

    private static final class Stall {
        int capacity;
        int cash;
        int stars;
        int margin;

        void copyFrom(Stall other) {
            capacity = other.capacity;
            cash = other.cash;
            stars = other.stars;
            margin = other.margin;
        }
    }

    private static final class Wish {
        /** As the name of a person. */
        int name;
        int base;
        int strength;
        int wear;
        int stall;
        int owner;
        boolean granted;
        boolean faded;
        int boughtOn;
        int boughtFor;
        int boughtAt;

        int worth() {
            return base * (FADED_WEAR - wear) / 10;
        }

        boolean isInTrade() {
            return stall != NONE || owner != NONE;
        }

        /** Puts the wish into a stall, or gives it to an owner, or neither; its purchase is forgotten. */
        void moveTo(int newStall, int newOwner) {
            stall = newStall;
            owner = newOwner;
            boughtOn = NONE;
            boughtFor = NONE;
            boughtAt = NONE;
        }

        void copyFrom(Wish other) {
            name = other.name;
            base = other.base;
            strength = other.strength;
            wear = other.wear;
            stall = other.stall;
            owner = other.owner;
            granted = other.granted;
            faded = other.faded;
            boughtOn = other.boughtOn;
            boughtFor = other.boughtFor;
            boughtAt = other.boughtAt;
        }
    }

    /** One whole state of the simulation. */
    private static final class Market {
        final Person[] persons = new Person[MOST_PERSONS];
        final Stall[] stalls = new Stall[MOST_STALLS];
        final Wish[] wishes = new Wish[MOST_WISHES];
        int personCount;
        int stallCount;
        int wishCount;
        int day;
        int yearLength;
        int regretDays;
        int feePercent;
        int auctionDay;
        int taxDay;
        int taxPercent;
        /** Coins and cash of all persons and stalls when they were created. */
        int createdMoney;

        Market() {
            for (int i = 0; i < MOST_PERSONS; i++) {
                persons[i] = new Person();
            }
            for (int i = 0; i < MOST_STALLS; i++) {
                stalls[i] = new Stall();
            }
            for (int i = 0; i < MOST_WISHES; i++) {
                wishes[i] = new Wish();
            }
        }

        void startAnew(int daysOfYear) {
            personCount = 0;
            stallCount = 0;
            wishCount = 0;
            day = 0;
            yearLength = daysOfYear;
            regretDays = 3;
            feePercent = 10;
            auctionDay = NONE;
            taxDay = NONE;
            taxPercent = 0;
            createdMoney = 0;
        }

        void copyFrom(Market other) {
            for (int i = 0; i < MOST_PERSONS; i++) {
                persons[i].copyFrom(other.persons[i]);
            }
            for (int i = 0; i < MOST_STALLS; i++) {
                stalls[i].copyFrom(other.stalls[i]);
            }
            for (int i = 0; i < MOST_WISHES; i++) {
                wishes[i].copyFrom(other.wishes[i]);
            }
            personCount = other.personCount;
            stallCount = other.stallCount;
            wishCount = other.wishCount;
            day = other.day;
            yearLength = other.yearLength;
            regretDays = other.regretDays;
            feePercent = other.feePercent;
            auctionDay = other.auctionDay;
            taxDay = other.taxDay;
            taxPercent = other.taxPercent;
            createdMoney = other.createdMoney;
        }

        int today() {
            return yearLength > 0 ? day % yearLength : 0;
        }

        // ---- counts

        int ownedBy(int person) {
            int count = 0;
            for (int w = 0; w < wishCount; w++) {
                if (wishes[w].owner == person) {
                    count++;
                }
            }
            return count;
        }

        int stockOf(int stall) {
            int count = 0;
            for (int w = 0; w < wishCount; w++) {
                if (wishes[w].stall == stall) {
                    count++;
                }
            }
            return count;
        }

        int countGranted() {
            int count = 0;
            for (int w = 0; w < wishCount; w++) {
                if (wishes[w].granted) {
                    count++;
                }
            }
            return count;
        }

        int countFaded() {
            int count = 0;
            for (int w = 0; w < wishCount; w++) {
                if (wishes[w].faded) {
                    count++;
                }
            }
            return count;
        }

        int money() {
            int sum = 0;
            for (int p = 0; p < personCount; p++) {
                sum += persons[p].coins;
            }
            for (int s = 0; s < stallCount; s++) {
                sum += stalls[s].cash;
            }
            return sum;
        }

        int countMisplaced() {
            int count = 0;
            for (int w = 0; w < wishCount; w++) {
                Wish wish = wishes[w];
                int states = (wish.stall != NONE ? 1 : 0) + (wish.owner != NONE ? 1 : 0)
                        + (wish.granted ? 1 : 0) + (wish.faded ? 1 : 0);
                if (states != 1) {
                    count++;
                }
            }
            return count;
        }

        double meanWear() {
            int sum = 0;
            int count = 0;
            for (int w = 0; w < wishCount; w++) {
                if (wishes[w].isInTrade()) {
                    sum += wishes[w].wear;
                    count++;
                }
            }
            return count == 0 ? 0.0 : (double) sum / (double) count;
        }

        float meanStars() {
            int sum = 0;
            for (int s = 0; s < stallCount; s++) {
                sum += stalls[s].stars;
            }
            return stallCount == 0 ? 0.0f : (float) sum / (float) stallCount;
        }

        boolean hasPersonNamed(int name) {
            for (int p = 0; p < personCount; p++) {
                if (persons[p].name == name) {
                    return true;
                }
            }
            return false;
        }

        /** Says whether a wish bears the name, leaving aside one wish (NONE leaves aside no wish). */
        boolean hasWishNamed(int name, int leftAside) {
            for (int w = 0; w < wishCount; w++) {
                if (w != leftAside && wishes[w].name == name) {
                    return true;
                }
            }
            return false;
        }

        // ---- prices and obstacles

        int priceOf(int wish) {
            Wish sold = wishes[wish];
            if (sold.stall == NONE) {
                return NONE;
            }
            Stall seller = stalls[sold.stall];
            int price = sold.base * (FADED_WEAR - sold.wear) * (100 + seller.margin) * (50 + seller.stars) / 100000;
            return price == 0 ? 1 : price;
        }

        int offerFor(int wish, int stall) {
            Wish offered = wishes[wish];
            return offered.base * (FADED_WEAR - offered.wear) * (50 + stalls[stall].stars) / 1000;
        }

        int refundFor(int wish) {
            Wish returned = wishes[wish];
            return returned.boughtOn == NONE ? NONE : returned.boughtFor * (100 - feePercent) / 100;
        }

        int obstacleToBuy(int person, int wish) {
            if (wishes[wish].stall == NONE) {
                return 1;
            }
            if (persons[person].coins < priceOf(wish)) {
                return 2;
            }
            return ownedBy(person) >= MOST_OWNED ? 3 : 0;
        }

        int obstacleToSell(int wish, int stall) {
            if (wishes[wish].owner == NONE) {
                return 1;
            }
            if (stockOf(stall) >= stalls[stall].capacity) {
                return 2;
            }
            return stalls[stall].cash < offerFor(wish, stall) ? 3 : 0;
        }

        int obstacleToReturn(int wish) {
            Wish returned = wishes[wish];
            if (returned.owner == NONE || returned.boughtOn == NONE) {
                return 1;
            }
            if (day - returned.boughtOn > regretDays) {
                return 2;
            }
            Stall seller = stalls[returned.boughtAt];
            if (stockOf(returned.boughtAt) >= seller.capacity) {
                return 3;
            }
            return seller.cash < refundFor(wish) ? 4 : 0;
        }

        int obstacleToGrant(int wish) {
            int owner = wishes[wish].owner;
            if (owner == NONE) {
                return 1;
            }
            if (persons[owner].birthday != today()) {
                return 2;
            }
            return persons[owner].candles < wishes[wish].strength ? 3 : 0;
        }

        // ---- searches

        int cheapestFor(int person, int greatestPrice) {
            int cheapest = NONE;
            for (int w = 0; w < wishCount; w++) {
                if (obstacleToBuy(person, w) == 0 && priceOf(w) <= greatestPrice
                        && (cheapest == NONE || priceOf(w) < priceOf(cheapest))) {
                    cheapest = w;
                }
            }
            return cheapest;
        }

        int bestGrantFor(int person) {
            int best = NONE;
            for (int w = 0; w < wishCount; w++) {
                if (wishes[w].owner == person && obstacleToGrant(w) == 0
                        && (best == NONE || wishes[w].worth() > wishes[best].worth())) {
                    best = w;
                }
            }
            return best;
        }

        int bestStallFor(int wish) {
            int best = NONE;
            for (int s = 0; s < stallCount; s++) {
                if (obstacleToSell(wish, s) == 0 && (best == NONE || offerFor(wish, s) > offerFor(wish, best))) {
                    best = s;
                }
            }
            return best;
        }

        // ---- trades and grants; the caller has looked at the obstacles

        int carryOutPurchase(int person, int wish) {
            int price = priceOf(wish);
            int stall = wishes[wish].stall;
            handOver(person, wish, price);
            stalls[stall].stars = Math.min(stalls[stall].stars + 1, MOST_STARS);
            return price;
        }

        /** Moves a wish from its stall to a person who pays the price. */
        void handOver(int person, int wish, int price) {
            Wish bought = wishes[wish];
            int stall = bought.stall;
            persons[person].coins -= price;
            stalls[stall].cash += price;
            bought.moveTo(NONE, person);
            bought.boughtOn = day;
            bought.boughtFor = price;
            bought.boughtAt = stall;
        }

        int carryOutSale(int wish, int stall) {
            int offer = offerFor(wish, stall);
            takeBack(wish, stall, offer);
            return offer;
        }

        int carryOutReturn(int wish) {
            int refund = refundFor(wish);
            int stall = wishes[wish].boughtAt;
            takeBack(wish, stall, refund);
            stalls[stall].stars = Math.max(stalls[stall].stars - 2, 0);
            return refund;
        }

        /** Moves a wish from its owner to a stall that pays the amount. */
        void takeBack(int wish, int stall, int amount) {
            stalls[stall].cash -= amount;
            persons[wishes[wish].owner].coins += amount;
            wishes[wish].moveTo(stall, NONE);
        }

        int carryOutGrant(int wish) {
            Person happy = persons[wishes[wish].owner];
            happy.happiness += wishes[wish].worth();
            wishes[wish].moveTo(NONE, NONE);
            wishes[wish].granted = true;
            return happy.happiness;
        }

        // ---- days

        /** Simulates some days and answers how many wishes were granted in them. */
        int simulate(int days) {
            int grants = 0;
            for (int i = 0; i < days; i++) {
                grants += celebrate();
                shop();
                bargain();
                if (today() == auctionDay) {
                    holdAuctions();
                }
                if (today() == taxDay) {
                    collectTaxes();
                }
                endDay();
            }
            return grants;
        }

        int celebrate() {
            int grants = 0;
            for (int p = 0; p < personCount; p++) {
                if (persons[p].birthday == today()) {
                    persons[p].candles++;
                    int wish = persons[p].celebrator ? bestGrantFor(p) : NONE;
                    if (wish != NONE) {
                        carryOutGrant(wish);
                        grants++;
                    }
                }
            }
            return grants;
        }

        void shop() {
            for (int p = 0; p < personCount; p++) {
                if (persons[p].limit > 0) {
                    int wish = cheapestFor(p, persons[p].limit);
                    if (wish != NONE) {
                        carryOutPurchase(p, wish);
                    }
                }
            }
        }

        void bargain() {
            for (int p = 0; p < personCount; p++) {
                boolean looks = persons[p].bargainer;
                for (int w = 0; looks && w < wishCount; w++) {
                    int stall = wishes[w].owner == p ? bestStallFor(w) : NONE;
                    if (stall != NONE && offerFor(w, stall) > costOf(w)) {
                        carryOutSale(w, stall);
                        looks = false;
                    }
                }
            }
        }

        /** What an offer for an owned wish has to exceed for a bargainer. */
        int costOf(int wish) {
            return wishes[wish].boughtOn == NONE ? wishes[wish].worth() : wishes[wish].boughtFor;
        }

        void holdAuctions() {
            for (int s = 0; s < stallCount; s++) {
                int wish = mostValuableIn(s);
                if (wish != NONE) {
                    auctionOff(wish);
                }
            }
        }

        int mostValuableIn(int stall) {
            int best = NONE;
            for (int w = 0; w < wishCount; w++) {
                if (wishes[w].stall == stall && (best == NONE || wishes[w].worth() > wishes[best].worth())) {
                    best = w;
                }
            }
            return best;
        }

        void auctionOff(int wish) {
            int worth = wishes[wish].worth();
            int winner = NONE;
            int greatest = 0;
            for (int p = 0; p < personCount; p++) {
                int bid = Math.min(persons[p].coins / 2, worth);
                if (bid > greatest && ownedBy(p) < MOST_OWNED) {
                    winner = p;
                    greatest = bid;
                }
            }
            if (winner != NONE && greatest >= worth / 2) {
                handOver(winner, wish, greatest);
            }
        }

        void collectTaxes() {
            for (int p = 0; p < personCount && stallCount > 0; p++) {
                int tax = persons[p].coins * taxPercent / 100;
                persons[p].coins -= tax;
                stalls[poorestStall()].cash += tax;
            }
        }

        int poorestStall() {
            int poorest = 0;
            for (int s = 1; s < stallCount; s++) {
                if (stalls[s].cash < stalls[poorest].cash) {
                    poorest = s;
                }
            }
            return poorest;
        }

        void endDay() {
            day++;
            if (today() == 0) {
                for (int w = 0; w < wishCount; w++) {
                    if (wishes[w].isInTrade()) {
                        wearOut(wishes[w]);
                    }
                }
            }
        }

        void wearOut(Wish worn) {
            worn.wear++;
            if (worn.wear >= FADED_WEAR) {
                worn.moveTo(NONE, NONE);
                worn.faded = true;
            }
        }
    }

    private enum Kind { END, WORD, NUMBER, SEMICOLON, OPEN, CLOSE, MALFORMED }

    /** The input buffer, and its first bytes seen as tokens: the latest one that was scanned is the current one. */
    private static final class Tokens {
        final byte[] bytes = new byte[BUFFER_SIZE];
        int filled;
        /** Number of bytes to parse. */
        int length;
        /** Index of the first byte behind the current token. */
        int next;
        /** Index of the first byte of the current token. */
        int start;
        Kind kind = Kind.END;

        void putFourBytes(int four) {
            for (int shift = 24; shift >= 0 && filled < BUFFER_SIZE; shift -= 8) {
                bytes[filled] = (byte) (four >> shift);
                filled++;
            }
        }

        void startAnew(int newLength) {
            length = Math.min(newLength, filled);
            next = 0;
        }

        void scan() {
            skip(' ', ' ');
            start = next;
            skip('a', 'z');
            if (next > start) {
                kind = tokenLength() <= LONGEST_WORD ? Kind.WORD : Kind.MALFORMED;
                return;
            }
            skip('0', '9');
            if (next > start) {
                kind = tokenLength() <= LONGEST_NUMBER ? Kind.NUMBER : Kind.MALFORMED;
            } else if (next < length) {
                kind = kindOfSign(bytes[next]);
                next++;
            } else {
                kind = Kind.END;
            }
        }

        /** Goes on to the first byte that is not one of these. */
        private void skip(int least, int greatest) {
            while (next < length && bytes[next] >= least && bytes[next] <= greatest) {
                next++;
            }
        }

        private static Kind kindOfSign(int sign) {
            if (sign == ';') {
                return Kind.SEMICOLON;
            }
            if (sign == '(') {
                return Kind.OPEN;
            }
            return sign == ')' ? Kind.CLOSE : Kind.MALFORMED;
        }

        int tokenLength() {
            return next - start;
        }

        boolean isWord(String word) {
            if (kind != Kind.WORD || word.length() != tokenLength()) {
                return false;
            }
            for (int i = 0; i < word.length(); i++) {
                if (bytes[start + i] != word.charAt(i)) {
                    return false;
                }
            }
            return true;
        }

        /** Goes on to the next token if it is this word; stays in front of it otherwise. */
        boolean scanIfWord(String word) {
            int before = next;
            scan();
            if (isWord(word)) {
                return true;
            }
            next = before;
            return false;
        }

        Item item() {
            for (int i = 0; i < ITEMS.length; i++) {
                if (isWord(ITEMS[i].word)) {
                    return ITEMS[i];
                }
            }
            return Item.NO_ITEM;
        }

        int number() {
            int number = 0;
            for (int i = start; i < next; i++) {
                number = number * 10 + (bytes[i] - '0');
            }
            return number;
        }

        int packedName() {
            int name = 0;
            for (int i = 0; i < LONGEST_NAME && i < tokenLength(); i++) {
                name |= (bytes[start + i] - BEFORE_A) << (i * BITS_OF_LETTER);
            }
            return name;
        }
    }

    /** The items of a setup, each by the word that it begins with. */
    private enum Item {
        STALL("stall"), PERSON("person"), WISH("wish"), REGRET("regret"), FEE("fee"), LIMIT("limit"), BUY("buy"),
        SELL("sell"), RETURN("return"), GRANT("grant"), RENAME("rename"), SWAP("swap"), GIFT("gift"), SALE("sale"),
        AUCTION("auction"), TAX("tax"), ADVANCE("advance"), REPEAT("repeat"), NO_ITEM("");

        final String word;

        Item(String word) {
            this.word = word;
        }
    }

    /** Reads a setup, item by item, into a market of its own. */
    private static final class SetupReader {
        final Tokens tokens = new Tokens();
        final Market draft = new Market();
        int errorCode;
        int errorPosition = NONE;
        private final int[] repeatStart = new int[MOST_OPEN_REPEATS];
        private final int[] passesLeft = new int[MOST_OPEN_REPEATS];
        private int openRepeats;
        private int simulatedDays;

        /** Says whether the setup is valid; if not, the error is told by errorCode and errorPosition. */
        boolean read(int length) {
            errorCode = 0;
            errorPosition = NONE;
            openRepeats = 0;
            simulatedDays = 0;
            tokens.startAnew(length);
            try {
                readMarket();
                boolean more = isItemNext();
                for (int items = 0; more && items < MOST_ITEMS; items++) {
                    boolean opened = readItem();
                    more = opened || isItemNext();
                }
            } catch (IllegalArgumentException invalid) {
                return false;
            }
            return true;
        }

        /** An error is always one of the current token. */
        private void require(boolean allowed, int code) {
            if (!allowed) {
                errorCode = code;
                errorPosition = tokens.start;
                throw new IllegalArgumentException("an error of the setup");
            }
        }

        private void readMarket() {
            tokens.scan();
            require(tokens.isWord("market"), SYNTAX_ERROR);
            draft.startAnew(readNumber(4, 60));
        }

        /** Reads what stands behind an item, and goes back to the bracket of a repeat that has passes left. */
        private boolean isItemNext() {
            tokens.scan();
            while (openRepeats > 0 && tokens.kind == Kind.CLOSE) {
                int innermost = openRepeats - 1;
                if (passesLeft[innermost] > 0) {
                    passesLeft[innermost]--;
                    tokens.next = repeatStart[innermost];
                    return true;
                }
                openRepeats--;
                tokens.scan();
            }
            if (openRepeats == 0 && tokens.kind == Kind.END) {
                require(draft.stallCount > 0 && draft.personCount > 0, LIMIT_ERROR);
                return false;
            }
            require(tokens.kind == Kind.SEMICOLON, SYNTAX_ERROR);
            return true;
        }

        /** Says whether the item has opened a bracket, behind which another item must stand at once. */
        private boolean readItem() {
            tokens.scan();
            Item item = tokens.item();
            switch (item) {
                case STALL: readStall(); break;
                case PERSON: readHabits(readPerson()); break;
                case WISH: readWish(); break;
                case REGRET: draft.regretDays = readNumber(0, 30); break;
                case FEE: draft.feePercent = readNumber(0, 50); break;
                case LIMIT: readLimit(); break;
                case BUY: readBuy(); break;
                case SELL: readSell(); break;
                case RETURN: readReturn(); break;
                case GRANT: readGrant(); break;
                case RENAME: readRename(); break;
                case SWAP: readSwap(); break;
                case GIFT: readGift(); break;
                case SALE: readSale(); break;
                case AUCTION: draft.auctionDay = readDayOfYear(); break;
                case TAX: readTax(); break;
                case ADVANCE: draft.simulate(readDaysToSimulate()); break;
                case REPEAT: openRepeat(); return true;
                default: require(false, SYNTAX_ERROR);
            }
            return false;
        }

        private int readNumber(int least, int greatest) {
            tokens.scan();
            require(tokens.kind == Kind.NUMBER, SYNTAX_ERROR);
            int number = tokens.number();
            require(number >= least && number <= greatest, RANGE_ERROR);
            return number;
        }

        private int readPersonIndex() {
            return readNumber(0, draft.personCount - 1);
        }

        private int readStallIndex() {
            return readNumber(0, draft.stallCount - 1);
        }

        private int readWishIndex() {
            return readNumber(0, draft.wishCount - 1);
        }

        private int readDayOfYear() {
            return readNumber(0, draft.yearLength - 1);
        }

        private int readName() {
            tokens.scan();
            require(tokens.kind == Kind.WORD, SYNTAX_ERROR);
            require(tokens.tokenLength() <= LONGEST_NAME, RANGE_ERROR);
            return tokens.packedName();
        }

        private void readStall() {
            require(draft.stallCount < MOST_STALLS, LIMIT_ERROR);
            Stall stall = draft.stalls[draft.stallCount];
            stall.capacity = readNumber(1, 8);
            stall.cash = readNumber(0, 999);
            stall.stars = readNumber(0, MOST_STARS);
            stall.margin = readNumber(0, MOST_MARGIN);
            draft.stallCount++;
            draft.createdMoney += stall.cash;
        }

        private Person readPerson() {
            require(draft.personCount < MOST_PERSONS, LIMIT_ERROR);
            Person person = draft.persons[draft.personCount];
            person.name = readName();
            require(!draft.hasPersonNamed(person.name), CONFLICT_ERROR);
            person.coins = readNumber(0, 999);
            person.birthday = readDayOfYear();
            person.candles = readNumber(0, 99);
            person.happiness = 0;
            person.limit = 0;
            person.celebrator = false;
            person.bargainer = false;
            draft.personCount++;
            draft.createdMoney += person.coins;
            return person;
        }

        private void readHabits(Person person) {
            boolean more = true;
            // There are two habits, and the second one of two equal ones is an error.
            for (int habits = 0; more && habits <= 2; habits++) {
                if (tokens.scanIfWord("party")) {
                    require(!person.celebrator, CONFLICT_ERROR);
                    person.celebrator = true;
                } else if (tokens.scanIfWord("bargain")) {
                    require(!person.bargainer, CONFLICT_ERROR);
                    person.bargainer = true;
                } else {
                    more = false;
                }
            }
        }

        private void readWish() {
            require(draft.wishCount < MOST_WISHES, LIMIT_ERROR);
            Wish wish = draft.wishes[draft.wishCount];
            wish.name = readName();
            require(!draft.hasWishNamed(wish.name, NONE), CONFLICT_ERROR);
            wish.base = readNumber(1, 99);
            wish.strength = readNumber(0, 99);
            wish.granted = false;
            wish.faded = false;
            readPlace(wish);
            wish.wear = tokens.scanIfWord("worn") ? readNumber(0, 9) : 0;
            draft.wishCount++;
        }

        private void readPlace(Wish wish) {
            tokens.scan();
            boolean inStall = tokens.isWord("at");
            require(inStall || tokens.isWord("with"), SYNTAX_ERROR);
            if (inStall) {
                int stall = readNumber(0, draft.stallCount - 1);
                require(draft.stockOf(stall) < draft.stalls[stall].capacity, CONFLICT_ERROR);
                wish.moveTo(stall, NONE);
            } else {
                int person = readNumber(0, draft.personCount - 1);
                require(draft.ownedBy(person) < MOST_OWNED, CONFLICT_ERROR);
                wish.moveTo(NONE, person);
            }
        }

        private void readLimit() {
            int person = readPersonIndex();
            draft.persons[person].limit = readNumber(0, MOST_LIMIT);
        }

        private void readBuy() {
            int person = readPersonIndex();
            int wish = readWishIndex();
            require(draft.obstacleToBuy(person, wish) == 0, CONFLICT_ERROR);
            draft.carryOutPurchase(person, wish);
        }

        private void readSell() {
            int wish = readWishIndex();
            int stall = readStallIndex();
            require(draft.obstacleToSell(wish, stall) == 0, CONFLICT_ERROR);
            draft.carryOutSale(wish, stall);
        }

        private void readReturn() {
            int wish = readWishIndex();
            require(draft.obstacleToReturn(wish) == 0, CONFLICT_ERROR);
            draft.carryOutReturn(wish);
        }

        private void readGrant() {
            int wish = readWishIndex();
            require(draft.obstacleToGrant(wish) == 0, CONFLICT_ERROR);
            draft.carryOutGrant(wish);
        }

        private void readRename() {
            int wish = readWishIndex();
            int name = readName();
            require(!draft.hasWishNamed(name, wish), CONFLICT_ERROR);
            draft.wishes[wish].name = name;
        }

        private void readSwap() {
            int first = readWishIndex();
            int firstOwner = draft.wishes[first].owner;
            require(firstOwner != NONE, CONFLICT_ERROR);
            int second = readWishIndex();
            int secondOwner = draft.wishes[second].owner;
            require(secondOwner != NONE && second != first, CONFLICT_ERROR);
            draft.wishes[first].moveTo(NONE, secondOwner);
            draft.wishes[second].moveTo(NONE, firstOwner);
        }

        private void readGift() {
            int wish = readWishIndex();
            int owner = draft.wishes[wish].owner;
            require(owner != NONE, CONFLICT_ERROR);
            int person = readPersonIndex();
            require(person != owner && draft.ownedBy(person) < MOST_OWNED, CONFLICT_ERROR);
            draft.wishes[wish].moveTo(NONE, person);
        }

        private void readSale() {
            int stall = readStallIndex();
            draft.stalls[stall].margin = readNumber(0, MOST_MARGIN);
        }

        private void readTax() {
            int day = readDayOfYear();
            draft.taxPercent = readNumber(0, 50);
            draft.taxDay = day;
        }

        private int readDaysToSimulate() {
            int days = readNumber(1, MOST_DAYS);
            require(simulatedDays + days <= MOST_SETUP_DAYS, LIMIT_ERROR);
            simulatedDays += days;
            return days;
        }

        private void openRepeat() {
            require(openRepeats < MOST_OPEN_REPEATS, LIMIT_ERROR);
            int count = readNumber(1, 5);
            tokens.scan();
            require(tokens.kind == Kind.OPEN, SYNTAX_ERROR);
            passesLeft[openRepeats] = count - 1;
            repeatStart[openRepeats] = tokens.next;
            openRepeats++;
        }
    }
}
