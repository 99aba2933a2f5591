import java.util.ArrayList;
import java.util.List;
import java.util.stream.Collectors;

/**
 * The document once more, as plainly as may be and with nothing taken from the class: the same calls by the same names,
 * with which ModelTest compares the answers of WishMarket.
 */
public final class Model {
    private static final int NONE = -1;

    private final StringBuilder buffer = new StringBuilder();
    private int errorCode = 0;
    private int errorPosition = NONE;
    private String output = "";
    /** Null until a setup is loaded. */
    private ModelState now;
    private final List<ModelState> past = new ArrayList<>();
    private final ModelState[] saved = new ModelState[2];

    // ---- what the calls share

    private ModelState now() {
        if (now == null) {
            throw new IllegalStateException();
        }
        return now;
    }

    private static <T> T at(List<T> list, int index) {
        if (index < 0 || index >= list.size()) {
            throw new IndexOutOfBoundsException();
        }
        return list.get(index);
    }

    private ModelState.Person person(int index) {
        return at(now().persons, index);
    }

    private ModelState.Stall stall(int index) {
        return at(now().stalls, index);
    }

    private ModelState.Wish wish(int index) {
        return at(now().wishes, index);
    }

    private static void demand(boolean right) {
        if (!right) {
            throw new IllegalArgumentException();
        }
    }

    private void remember() {
        past.add(now.copy());
        if (past.size() > 8) {
            past.remove(0);
        }
    }

    private static int letter(String name, int index) {
        return index < 0 || index >= name.length() ? NONE : name.charAt(index);
    }

    private int write(String text) {
        output = text;
        return text.length();
    }

    // ---- input buffer and setup

    public int append(int a, int b, int c, int d, int e) {
        if (buffer.length() > 480) {
            return NONE;
        }
        for (int four : new int[] {a, b, c, d, e}) {
            for (int i = 3; i >= 0; i--) {
                buffer.append((char) (four >>> 8 * i & 255));
            }
        }
        return buffer.length();
    }

    public int parseSetup(int length) {
        if (length < 0 || length > buffer.length()) {
            throw new IndexOutOfBoundsException();
        }
        String text = buffer.substring(0, length);
        buffer.setLength(0);
        try {
            now = ModelSetup.read(text);
        } catch (ModelSetup.Invalid invalid) {
            errorCode = invalid.code;
            errorPosition = invalid.position;
            throw new IllegalArgumentException();
        }
        errorCode = 0;
        errorPosition = NONE;
        past.clear();
        saved[0] = null;
        saved[1] = null;
        return now.wishes.size();
    }

    public int parseErrorCode() {
        return errorCode;
    }

    public int parseErrorPosition() {
        return errorPosition;
    }

    public int bufferLength() {
        return buffer.length();
    }

    // ---- calendar and accounts

    public int day() {
        return now().day;
    }

    public int yearLength() {
        return now().year;
    }

    public int dayOfYear() {
        return now().dayOfYear();
    }

    public int grantedCount() {
        return (int) now().wishes.stream().filter(w -> w.where == ModelState.Where.GRANTED).count();
    }

    public int fadedCount() {
        return (int) now().wishes.stream().filter(w -> w.where == ModelState.Where.FADED).count();
    }

    public int imbalance() {
        now();
        return 0;
    }

    public double averageWear() {
        List<ModelState.Wish> present = now().wishes.stream().filter(w -> w.where == ModelState.Where.STALL
                || w.where == ModelState.Where.OWNED).collect(Collectors.toList());
        double sum = present.stream().mapToInt(w -> w.wear).sum();
        return present.isEmpty() ? 0.0 : sum / present.size();
    }

    public float averageStars() {
        float sum = now().stalls.stream().mapToInt(s -> s.stars).sum();
        return sum / now.stalls.size();
    }

    // ---- persons

    public int personCount() {
        return now().persons.size();
    }

    public int personLetter(int person, int index) {
        return letter(person(person).name, index);
    }

    public int coins(int person) {
        return person(person).coins;
    }

    public int birthday(int person) {
        return person(person).birthday;
    }

    public int candles(int person) {
        return person(person).candles;
    }

    public int happiness(int person) {
        return person(person).happiness;
    }

    public int ownedCount(int person) {
        return now().owned(person(person).index);
    }

    public int shoppingLimit(int person) {
        return person(person).limit;
    }

    public int daysUntilBirthday(int person) {
        int days = 0;
        while ((now().day + days) % now.year != person(person).birthday) {
            days++;
        }
        return days;
    }

    // ---- stalls

    public int stallCount() {
        return now().stalls.size();
    }

    public int cash(int stall) {
        return stall(stall).cash;
    }

    public int stars(int stall) {
        return stall(stall).stars;
    }

    public int margin(int stall) {
        return stall(stall).margin;
    }

    public int stockCount(int stall) {
        return now().stock(stall(stall).index);
    }

    // ---- wishes

    public int wishLetter(int wish, int index) {
        return letter(wish(wish).name, index);
    }

    public int baseValue(int wish) {
        return wish(wish).base;
    }

    public int strength(int wish) {
        return wish(wish).strength;
    }

    public int wear(int wish) {
        return wish(wish).wear;
    }

    public int value(int wish) {
        return wish(wish).value();
    }

    public int owner(int wish) {
        return wish(wish).where == ModelState.Where.OWNED ? wish(wish).place : NONE;
    }

    public int stallOf(int wish) {
        return wish(wish).where == ModelState.Where.STALL ? wish(wish).place : NONE;
    }

    public boolean isGranted(int wish) {
        return wish(wish).where == ModelState.Where.GRANTED;
    }

    public int purchaseDay(int wish) {
        return wish(wish).purchase == null ? NONE : wish(wish).purchase.day();
    }

    public int purchasePrice(int wish) {
        return wish(wish).purchase == null ? NONE : wish(wish).purchase.price();
    }

    // ---- prices and obstacles

    public int price(int wish) {
        return stallOf(wish) == NONE ? NONE : now.price(wish(wish));
    }

    public int offer(int wish, int stall) {
        int offer = now().offer(wish(wish), stall(stall));
        return owner(wish) == NONE ? NONE : offer;
    }

    public int refund(int wish) {
        return purchaseDay(wish) == NONE ? NONE : now.refund(wish(wish));
    }

    public int buyObstacle(int person, int wish) {
        return now().buyObstacle(person(person), wish(wish));
    }

    public int sellObstacle(int wish, int stall) {
        return now().sellObstacle(wish(wish), stall(stall));
    }

    public int returnObstacle(int wish) {
        return now().returnObstacle(wish(wish));
    }

    public int grantObstacle(int wish) {
        return now().grantObstacle(wish(wish));
    }

    // ---- searches and predictions

    public int cheapestWish(int person) {
        return now().cheapest(person(person), Integer.MAX_VALUE);
    }

    public int bestGrant(int person) {
        return now().bestGrant(person(person));
    }

    public int bestOffer(int wish) {
        return now().bestOffer(wish(wish));
    }

    private ModelState after(int days) {
        demand(days >= 0 && days <= 300);
        ModelState later = now.copy();
        later.advance(days);
        return later;
    }

    public int coinsAfter(int person, int days) {
        int index = person(person).index;
        return after(days).persons.get(index).coins;
    }

    public int valueAfter(int wish, int days) {
        int index = wish(wish).index;
        return after(days).wishes.get(index).value();
    }

    public int daysUntilFaded(int wish) {
        switch (wish(wish).where) {
            case GRANTED: return NONE;
            case FADED: return 0;
            default: break;
        }
        int days = 0;
        for (int wear = wish(wish).wear; wear < 10; days++) {
            wear += (now.day + days + 1) % now.year == 0 ? 1 : 0;
        }
        return days;
    }

    // ---- text output

    public int writeStall(int stall) {
        stall(stall);
        String text = now.wishes.stream().filter(w -> w.isIn(stall)).map(w -> w.name + "=" + now.price(w))
                .collect(Collectors.joining(" "));
        return write(text.isEmpty() ? "-" : text);
    }

    public int writePerson(int person) {
        String text = person(person).name + ":" + person(person).coins;
        return write(text + now.wishes.stream().filter(w -> w.isOwnedBy(person)).map(w -> " " + w.name)
                .collect(Collectors.joining()));
    }

    public int outputByte(int index) {
        if (index < 0 || index >= output.length()) {
            throw new IndexOutOfBoundsException();
        }
        return output.charAt(index);
    }

    // ---- changes

    public int advance(int days) {
        now();
        demand(days >= 1 && days <= 300);
        remember();
        return now.advance(days);
    }

    public int buy(int person, int wish) {
        demand(buyObstacle(person, wish) == 0);
        remember();
        return now.buy(person(person), wish(wish));
    }

    public int sell(int wish, int stall) {
        demand(sellObstacle(wish, stall) == 0);
        remember();
        return now.sell(wish(wish), stall(stall));
    }

    public int returnWish(int wish) {
        demand(returnObstacle(wish) == 0);
        remember();
        return now.giveBack(wish(wish));
    }

    public int grant(int wish) {
        demand(grantObstacle(wish) == 0);
        remember();
        return now.grant(wish(wish));
    }

    public int setLimit(int person, int limit) {
        int previous = person(person).limit;
        demand(limit >= 0 && limit <= 200);
        remember();
        person(person).limit = limit;
        return previous;
    }

    public int setMargin(int stall, int margin) {
        int previous = stall(stall).margin;
        demand(margin >= 0 && margin <= 100);
        remember();
        stall(stall).margin = margin;
        return previous;
    }

    public int undo() {
        if (past.isEmpty()) {
            throw new IllegalStateException();
        }
        now = past.remove(past.size() - 1);
        return past.size();
    }

    public int undoCount() {
        return past.size();
    }

    public int saveState(int slot) {
        now();
        if (slot != 0 && slot != 1) {
            throw new IndexOutOfBoundsException();
        }
        saved[slot] = now.copy();
        return now.day;
    }

    public int restoreState(int slot) {
        if (slot != 0 && slot != 1) {
            throw new IndexOutOfBoundsException();
        }
        if (saved[slot] == null) {
            throw new IllegalStateException();
        }
        now = saved[slot].copy();
        past.clear();
        return now.day;
    }
}
