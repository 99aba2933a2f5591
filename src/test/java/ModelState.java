import java.util.ArrayList;
import java.util.Comparator;
import java.util.List;
import java.util.stream.IntStream;
import java.util.stream.Stream;

/** Sections 1 to 5 of the document, written down once more: one state of the simulation, for Model. */
final class ModelState {
    static final class Person {
        final String name;
        final int index;
        int coins;
        int birthday;
        int candles;
        int happiness;
        int limit;
        boolean celebrator;
        boolean bargainer;

        Person(String name, int index) {
            this.name = name;
            this.index = index;
        }
    }

    static final class Stall {
        final int index;
        int capacity;
        int cash;
        int stars;
        int margin;

        Stall(int index) {
            this.index = index;
        }
    }

    enum Where { STALL, OWNED, GRANTED, FADED }

    record Purchase(int day, int price, int stall) {
    }

    static final class Wish {
        final int index;
        String name;
        int base;
        int strength;
        int wear;
        Where where;
        /** The stall or the person where it is; of no meaning for a granted or faded wish. */
        int place;
        /** Null if its owner did not buy it, or if there is no owner. */
        Purchase purchase;

        Wish(int index) {
            this.index = index;
        }

        boolean isIn(int stall) {
            return where == Where.STALL && place == stall;
        }

        boolean isOwnedBy(int person) {
            return where == Where.OWNED && place == person;
        }

        int value() {
            return base * (10 - wear) / 10;
        }

        void move(Where newWhere, int newPlace) {
            where = newWhere;
            place = newPlace;
            purchase = null;
        }
    }

    final List<Person> persons = new ArrayList<>();
    final List<Stall> stalls = new ArrayList<>();
    final List<Wish> wishes = new ArrayList<>();
    int day = 0;
    int year;
    int regretDays = 3;
    int fee = 10;
    int auctionDay = -1;
    int taxDay = -1;
    int taxPercent = 0;

    ModelState copy() {
        ModelState copy = new ModelState();
        for (Person p : persons) {
            Person q = new Person(p.name, p.index);
            q.coins = p.coins;
            q.birthday = p.birthday;
            q.candles = p.candles;
            q.happiness = p.happiness;
            q.limit = p.limit;
            q.celebrator = p.celebrator;
            q.bargainer = p.bargainer;
            copy.persons.add(q);
        }
        for (Stall s : stalls) {
            Stall t = new Stall(s.index);
            t.capacity = s.capacity;
            t.cash = s.cash;
            t.stars = s.stars;
            t.margin = s.margin;
            copy.stalls.add(t);
        }
        for (Wish w : wishes) {
            Wish v = new Wish(w.index);
            v.name = w.name;
            v.base = w.base;
            v.strength = w.strength;
            v.wear = w.wear;
            v.where = w.where;
            v.place = w.place;
            v.purchase = w.purchase;
            copy.wishes.add(v);
        }
        copy.day = day;
        copy.year = year;
        copy.regretDays = regretDays;
        copy.fee = fee;
        copy.auctionDay = auctionDay;
        copy.taxDay = taxDay;
        copy.taxPercent = taxPercent;
        return copy;
    }

    int dayOfYear() {
        return day % year;
    }

    int owned(int person) {
        return (int) wishes.stream().filter(w -> w.isOwnedBy(person)).count();
    }

    int stock(int stall) {
        return (int) wishes.stream().filter(w -> w.isIn(stall)).count();
    }

    // ---- amounts

    int price(Wish w) {
        Stall s = stalls.get(w.place);
        return Math.max(1, w.base * (10 - w.wear) * (100 + s.margin) * (50 + s.stars) / 100000);
    }

    int offer(Wish w, Stall s) {
        return w.base * (10 - w.wear) * (50 + s.stars) / 1000;
    }

    int refund(Wish w) {
        return w.purchase.price() * (100 - fee) / 100;
    }

    // ---- obstacles

    int buyObstacle(Person p, Wish w) {
        if (w.where != Where.STALL) {
            return 1;
        }
        return p.coins < price(w) ? 2 : owned(p.index) == 4 ? 3 : 0;
    }

    int sellObstacle(Wish w, Stall s) {
        if (w.where != Where.OWNED) {
            return 1;
        }
        return stock(s.index) == s.capacity ? 2 : s.cash < offer(w, s) ? 3 : 0;
    }

    int returnObstacle(Wish w) {
        if (w.where != Where.OWNED || w.purchase == null) {
            return 1;
        }
        Stall s = stalls.get(w.purchase.stall());
        if (day - w.purchase.day() > regretDays) {
            return 2;
        }
        return stock(s.index) == s.capacity ? 3 : s.cash < refund(w) ? 4 : 0;
    }

    int grantObstacle(Wish w) {
        if (w.where != Where.OWNED) {
            return 1;
        }
        Person p = persons.get(w.place);
        return dayOfYear() != p.birthday ? 2 : p.candles < w.strength ? 3 : 0;
    }

    // ---- trades and grants without an obstacle

    int buy(Person p, Wish w) {
        Stall s = stalls.get(w.place);
        int price = price(w);
        acquire(p, w, price);
        s.stars = Math.min(50, s.stars + 1);
        return price;
    }

    private void acquire(Person p, Wish w, int amount) {
        Purchase purchase = new Purchase(day, amount, w.place);
        stalls.get(w.place).cash += amount;
        p.coins -= amount;
        w.move(Where.OWNED, p.index);
        w.purchase = purchase;
    }

    int sell(Wish w, Stall s) {
        int offer = offer(w, s);
        s.cash -= offer;
        persons.get(w.place).coins += offer;
        w.move(Where.STALL, s.index);
        return offer;
    }

    int giveBack(Wish w) {
        Stall s = stalls.get(w.purchase.stall());
        int refund = refund(w);
        s.cash -= refund;
        persons.get(w.place).coins += refund;
        w.move(Where.STALL, s.index);
        s.stars = Math.max(0, s.stars - 2);
        return refund;
    }

    int grant(Wish w) {
        Person p = persons.get(w.place);
        p.happiness += w.value();
        w.move(Where.GRANTED, -1);
        return p.happiness;
    }

    // ---- searches; min and max take the first one of several

    private static int first(Stream<Wish> candidates, Comparator<Wish> better) {
        return candidates.reduce((a, b) -> better.compare(b, a) > 0 ? b : a).map(w -> w.index).orElse(-1);
    }

    int cheapest(Person p, int greatest) {
        return first(wishes.stream().filter(w -> buyObstacle(p, w) == 0 && price(w) <= greatest),
                (a, b) -> price(b) - price(a));
    }

    int bestGrant(Person p) {
        return first(wishes.stream().filter(w -> w.isOwnedBy(p.index) && grantObstacle(w) == 0),
                (a, b) -> a.value() - b.value());
    }

    int bestOffer(Wish w) {
        return stalls.stream().filter(s -> sellObstacle(w, s) == 0)
                .reduce((a, b) -> offer(w, b) > offer(w, a) ? b : a).map(s -> s.index).orElse(-1);
    }

    // ---- a day

    int advance(int days) {
        return IntStream.range(0, days).map(i -> oneDay()).sum();
    }

    private int oneDay() {
        int granted = 0;
        for (Person p : persons) {
            granted += birthday(p);
        }
        for (Person p : persons) {
            int w = p.limit > 0 ? cheapest(p, p.limit) : -1;
            if (w >= 0) {
                buy(p, wishes.get(w));
            }
        }
        for (Person p : persons) {
            if (p.bargainer) {
                bargain(p);
            }
        }
        if (dayOfYear() == auctionDay) {
            stalls.forEach(this::auction);
        }
        if (dayOfYear() == taxDay && !stalls.isEmpty()) {
            persons.forEach(this::tax);
        }
        day++;
        if (dayOfYear() == 0) {
            wishes.forEach(ModelState::age);
        }
        return granted;
    }

    private int birthday(Person p) {
        if (p.birthday != dayOfYear()) {
            return 0;
        }
        p.candles++;
        int w = p.celebrator ? bestGrant(p) : -1;
        if (w >= 0) {
            grant(wishes.get(w));
        }
        return w >= 0 ? 1 : 0;
    }

    private void bargain(Person p) {
        for (Wish w : wishes) {
            int s = w.isOwnedBy(p.index) ? bestOffer(w) : -1;
            if (s >= 0 && offer(w, stalls.get(s)) > (w.purchase == null ? w.value() : w.purchase.price())) {
                sell(w, stalls.get(s));
                return;
            }
        }
    }

    private void auction(Stall s) {
        int index = first(wishes.stream().filter(w -> w.isIn(s.index)), (a, b) -> a.value() - b.value());
        if (index < 0) {
            return;
        }
        Wish w = wishes.get(index);
        int[] bids = persons.stream().mapToInt(p -> owned(p.index) < 4 ? Math.min(p.coins / 2, w.value()) : -1)
                .toArray();
        int greatest = IntStream.of(bids).max().orElse(-1);
        if (greatest >= Math.max(1, w.value() / 2)) {
            int winner = IntStream.range(0, bids.length).filter(i -> bids[i] == greatest).findFirst().getAsInt();
            acquire(persons.get(winner), w, greatest);
        }
    }

    private void tax(Person p) {
        int amount = p.coins * taxPercent / 100;
        Stall poorest = stalls.stream().reduce((a, b) -> b.cash < a.cash ? b : a).orElseThrow();
        p.coins -= amount;
        poorest.cash += amount;
    }

    private static void age(Wish w) {
        if (w.where == Where.STALL || w.where == Where.OWNED) {
            w.wear++;
            if (w.wear == 10) {
                w.move(Where.FADED, -1);
            }
        }
    }
}
