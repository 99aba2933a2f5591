import java.util.regex.Matcher;
import java.util.regex.Pattern;

/** Section 6 of the document, written down once more: reads a setup into a state, for Model. */
final class ModelSetup {
    /** The first error of a setup. */
    static final class Invalid extends RuntimeException {
        private static final long serialVersionUID = 1L;
        final int code;
        final int position;

        Invalid(int code, int position) {
            this.code = code;
            this.position = position;
        }
    }

    private static final int SYNTAX = 1;
    private static final int RANGE = 2;
    private static final int CONFLICT = 3;
    private static final int LIMIT = 4;
    private static final Pattern TOKEN = Pattern.compile(" *([a-z]+|[0-9]+|(?s:.)|$)");

    private final String text;
    private final ModelState state = new ModelState();
    /** Where the next token is looked for, and the latest token and where it stands. */
    private int next = 0;
    private String token = "";
    private int start = 0;
    private int simulated = 0;

    private ModelSetup(String text) {
        this.text = text;
    }

    static ModelState read(String text) {
        ModelSetup setup = new ModelSetup(text);
        setup.readAll();
        return setup.state;
    }

    private void readAll() {
        take("market");
        state.year = number(4, 60);
        while (sees(";")) {
            item(0);
        }
        take("");
        require(!state.stalls.isEmpty() && !state.persons.isEmpty(), LIMIT);
    }

    // ---- tokens

    private void scan() {
        Matcher matcher = TOKEN.matcher(text).region(next, text.length());
        require(matcher.lookingAt(), SYNTAX);
        token = matcher.group(1);
        start = matcher.start(1);
        next = matcher.end();
        require(token.matches("[a-z]{1,7}|[0-9]{1,3}|[;()]|"), SYNTAX);
    }

    private void require(boolean right, int code) {
        if (!right) {
            throw new Invalid(code, start);
        }
    }

    private void take(String due) {
        scan();
        require(token.equals(due), SYNTAX);
    }

    /** Takes the next token if it is this one. A token that can be none is told by whoever takes it. */
    private boolean sees(String wanted) {
        Matcher matcher = TOKEN.matcher(text).region(next, text.length());
        if (!matcher.lookingAt() || !matcher.group(1).equals(wanted)) {
            return false;
        }
        scan();
        return true;
    }

    private int number(int least, int greatest) {
        scan();
        require(token.matches("[0-9]+"), SYNTAX);
        int number = Integer.parseInt(token);
        require(number >= least && number <= greatest, RANGE);
        return number;
    }

    private String name() {
        scan();
        require(token.matches("[a-z]+"), SYNTAX);
        require(token.length() <= 6, RANGE);
        return token;
    }

    private ModelState.Person person() {
        return state.persons.get(number(0, state.persons.size() - 1));
    }

    private ModelState.Stall stall() {
        return state.stalls.get(number(0, state.stalls.size() - 1));
    }

    private ModelState.Wish wish() {
        return state.wishes.get(number(0, state.wishes.size() - 1));
    }

    // ---- items

    private void item(int brackets) {
        scan();
        switch (token) {
            case "stall" -> newStall();
            case "person" -> newPerson();
            case "wish" -> newWish();
            case "regret" -> state.regretDays = number(0, 30);
            case "fee" -> state.fee = number(0, 50);
            case "limit" -> {
                ModelState.Person p = person();
                p.limit = number(0, 200);
            }
            case "buy" -> {
                ModelState.Person p = person();
                ModelState.Wish w = wish();
                require(state.buyObstacle(p, w) == 0, CONFLICT);
                state.buy(p, w);
            }
            case "sell" -> {
                ModelState.Wish w = wish();
                ModelState.Stall s = stall();
                require(state.sellObstacle(w, s) == 0, CONFLICT);
                state.sell(w, s);
            }
            case "return" -> {
                ModelState.Wish w = wish();
                require(state.returnObstacle(w) == 0, CONFLICT);
                state.giveBack(w);
            }
            case "grant" -> {
                ModelState.Wish w = wish();
                require(state.grantObstacle(w) == 0, CONFLICT);
                state.grant(w);
            }
            case "rename" -> rename();
            case "swap" -> swap();
            case "gift" -> gift();
            case "sale" -> {
                ModelState.Stall s = stall();
                s.margin = number(0, 100);
            }
            case "auction" -> state.auctionDay = number(0, state.year - 1);
            case "tax" -> {
                state.taxDay = number(0, state.year - 1);
                state.taxPercent = number(0, 50);
            }
            case "advance" -> {
                int days = number(1, 300);
                simulated += days;
                require(simulated <= 2000, LIMIT);
                state.advance(days);
            }
            case "repeat" -> repeat(brackets);
            default -> require(false, SYNTAX);
        }
    }

    private void newStall() {
        require(state.stalls.size() < 5, LIMIT);
        ModelState.Stall s = new ModelState.Stall(state.stalls.size());
        s.capacity = number(1, 8);
        s.cash = number(0, 999);
        s.stars = number(0, 50);
        s.margin = number(0, 100);
        state.stalls.add(s);
    }

    private void newPerson() {
        require(state.persons.size() < 6, LIMIT);
        String name = name();
        require(state.persons.stream().noneMatch(p -> p.name.equals(name)), CONFLICT);
        ModelState.Person p = new ModelState.Person(name, state.persons.size());
        p.coins = number(0, 999);
        p.birthday = number(0, state.year - 1);
        p.candles = number(0, 99);
        state.persons.add(p);
        while (sees("party") || sees("bargain")) {
            boolean party = token.equals("party");
            require(party ? !p.celebrator : !p.bargainer, CONFLICT);
            p.celebrator |= party;
            p.bargainer |= !party;
        }
    }

    private void newWish() {
        require(state.wishes.size() < 16, LIMIT);
        String name = name();
        require(state.wishes.stream().noneMatch(w -> w.name.equals(name)), CONFLICT);
        ModelState.Wish w = new ModelState.Wish(state.wishes.size());
        w.name = name;
        w.base = number(1, 99);
        w.strength = number(0, 99);
        if (sees("at")) {
            ModelState.Stall s = stall();
            require(state.stock(s.index) < s.capacity, CONFLICT);
            w.move(ModelState.Where.STALL, s.index);
        } else {
            take("with");
            ModelState.Person p = person();
            require(state.owned(p.index) < 4, CONFLICT);
            w.move(ModelState.Where.OWNED, p.index);
        }
        w.wear = sees("worn") ? number(0, 9) : 0;
        state.wishes.add(w);
    }

    private void rename() {
        ModelState.Wish renamed = wish();
        String name = name();
        require(state.wishes.stream().noneMatch(w -> w != renamed && w.name.equals(name)), CONFLICT);
        renamed.name = name;
    }

    private void swap() {
        ModelState.Wish v = wish();
        require(v.where == ModelState.Where.OWNED, CONFLICT);
        ModelState.Wish w = wish();
        require(w.where == ModelState.Where.OWNED && w != v, CONFLICT);
        int owner = v.place;
        v.move(ModelState.Where.OWNED, w.place);
        w.move(ModelState.Where.OWNED, owner);
    }

    private void gift() {
        ModelState.Wish w = wish();
        require(w.where == ModelState.Where.OWNED, CONFLICT);
        ModelState.Person p = person();
        require(!w.isOwnedBy(p.index) && state.owned(p.index) < 4, CONFLICT);
        w.move(ModelState.Where.OWNED, p.index);
    }

    private void repeat(int brackets) {
        require(brackets < 3, LIMIT);
        int count = number(1, 5);
        take("(");
        int first = next;
        for (int pass = 0; pass < count; pass++) {
            next = first;
            item(brackets + 1);
            while (sees(";")) {
                item(brackets + 1);
            }
            take(")");
        }
    }
}
