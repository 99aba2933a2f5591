/**
 * Long runs of calls with ordinary, edge and wild arguments, drawn by a fixed rule: every call answers, or throws an
 * exception that the document lists for it (never one of the machine's own), and the accounts stay balanced.
 */
public final class RandomTest {
    private static final int RUNS = 5000;
    /** An object is promised to bear 512 calls; the last step of a run makes fewer than 140. */
    private static final int CALLS = 370;
    private static final String WORDS = "stall person wish regret fee limit buy sell return grant rename swap gift sale"
            + " auction tax advance repeat party bargain at with worn market a b abcdefg abcdefgh";
    private static final String[] ITEMS = {"stall 3 50 10 20", "stall 1 9 49 0", "person # 70 1 3 bargain",
        "person # 90 2 9 party", "person # 20 0 5", "wish # 30 2 at 0", "wish # 12 9 with 0 worn 7", "wish # 50 0 at 1",
        "regret 9", "fee 25", "limit 0 60", "limit 1 30", "buy 0 0", "sell 1 0", "return 0", "grant 1", "rename 0 #",
        "swap 0 1", "gift 1 1", "sale 0 7", "auction 2", "tax 3 20", "advance 3", "repeat 2(advance 1;fee 9)",
        "repeat 2(person # 1 0 1)", "repeat 3(repeat 2(repeat 2(advance 2)))"};

    private static long seed = 20261119;
    private static int loadedSetups = 0;
    private static int answers = 0;
    /** Calls that the object of this run has seen. */
    private static int calls = 0;

    public static void main(String[] args) {
        for (int run = 0; run < RUNS; run++) {
            WishMarket x = new WishMarket();
            calls = 0;
            // With fewer items each time, at last a setup is valid.
            for (int items = 15; items >= 0 && (items == 15 || x.parseErrorCode() != 0); items -= 3) {
                load(x, items);
            }
            while (calls < CALLS) {
                oneCall(x);
            }
        }
        // The runs are worth something only if many setups are valid and many calls answer.
        Checks.due(loadedSetups > RUNS, true);
        Checks.due(answers > RUNS * 30, true);
        Checks.end();
    }

    private static int draw(int bound) {
        seed = seed * 6364136223846793005L + 1442695040888963407L;
        return (int) ((seed >>> 33) % bound);
    }

    private static int argument() {
        int kind = draw(20);
        if (kind == 0) {
            return draw(2) == 0 ? Integer.MIN_VALUE : Integer.MAX_VALUE;
        }
        return kind < 3 ? draw(400) - 50 : draw(kind < 10 ? 2 : 7);
    }

    private static String setup(int mostItems) {
        StringBuilder text = new StringBuilder("market ").append(4 + draw(8));
        text.append(";stall 8 ").append(draw(200)).append(" 5 60;person z ").append(draw(300)).append(" 1 4 party");
        int items = draw(mostItems + 1);
        for (int i = 0; i < items && text.length() < 440; i++) {
            String item = ITEMS[draw(ITEMS.length)];
            text.append(';').append(item.replace('#', (char) ('a' + draw(26))));
        }
        if (items > 0 && draw(4) == 0) {
            String[] words = WORDS.split(" ");
            int at = draw(text.length());
            text.insert(at, draw(2) == 0 ? words[draw(words.length)] : String.valueOf((char) draw(128)));
        }
        return text.substring(0, Math.min(text.length(), 500));
    }

    private static void oneCall(WishMarket x) {
        int kind = draw(100);
        if (kind == 0) {
            load(x, 15);
        } else if (kind == 1) {
            answer("0", () -> x.append(argument(), argument(), argument(), argument(), argument()));
        } else if (kind == 2) {
            int length = argument();
            answer("IA", () -> x.parseSetup(length));
        } else if (kind < 30) {
            change(x, kind % 9);
        } else {
            look(x, kind % 35);
        }
    }

    private static void load(WishMarket x, int mostItems) {
        if (x.bufferLength() > 0) {
            answer("IA", () -> x.parseSetup(x.bufferLength()));
        }
        String text = setup(mostItems);
        int length = Checks.append(x, text);
        calls += length / 20 + 8;
        answer("IA", () -> x.parseSetup(length));
        if (x.parseErrorCode() == 0) {
            loadedSetups++;
            sameAsFresh(x, text);
        }
        boolean right = (x.parseErrorCode() == 0) == (x.parseErrorPosition() == WishMarket.NONE)
                && x.parseErrorCode() >= 0 && x.parseErrorCode() <= 4 && x.parseErrorPosition() <= length
                && x.bufferLength() == 0;
        Checks.due(right, true);
    }

    /** What an object was before makes no difference to the setup that replaces it. */
    private static void sameAsFresh(WishMarket x, String text) {
        WishMarket fresh = Checks.market(text);
        for (int days : new int[] {0, 7, 60}) {
            for (int p = 0; p < fresh.personCount(); p++) {
                calls++;
                Checks.due(x.coinsAfter(p, days), fresh.coinsAfter(p, days));
            }
            for (int w = 0; isWish(fresh, w); w++) {
                calls++;
                Checks.due(x.valueAfter(w, days), fresh.valueAfter(w, days));
            }
        }
        Checks.due(x.grantedCount(), fresh.grantedCount());
        Checks.due(x.fadedCount(), fresh.fadedCount());
    }

    private static void change(WishMarket x, int kind) {
        int a = argument();
        int b = argument();
        int undoable = x.undoCount();
        calls += 3;
        boolean answered;
        switch (kind) {
            case 0: answered = answer("SA", () -> x.advance(a)); break;
            case 1: answered = answer("SIA", () -> x.buy(a, b)); break;
            case 2: answered = answer("SIA", () -> x.sell(a, b)); break;
            case 3: answered = answer("SIA", () -> x.returnWish(a)); break;
            case 4: answered = answer("SIA", () -> x.grant(a)); break;
            case 5: answered = answer("SIA", () -> x.setLimit(a, b)); break;
            case 6: answered = answer("SIA", () -> x.setMargin(a, b)); break;
            case 7: answer("S", () -> x.undo()); return;
            default: answer("SI", () -> draw(2) == 0 ? x.saveState(a) : x.restoreState(a)); return;
        }
        Checks.due(x.undoCount(), answered ? Math.min(undoable + 1, 8) : undoable);
        if (answered) {
            Checks.due(x.imbalance(), 0);
        }
    }

    private static void look(WishMarket x, int kind) {
        int a = argument();
        int b = argument();
        switch (kind) {
            case 0: answer("SI", () -> x.personLetter(a, b)); break;
            case 1: answer("SI", () -> x.coins(a)); break;
            case 2: answer("SI", () -> x.daysUntilBirthday(a)); break;
            case 3: answer("SI", () -> x.ownedCount(a)); break;
            case 4: answer("SI", () -> x.stockCount(a)); break;
            case 5: answer("SI", () -> x.cash(a)); break;
            case 6: answer("SI", () -> x.wishLetter(a, b)); break;
            case 7: answer("SI", () -> x.value(a)); break;
            case 8: answer("SI", () -> x.price(a)); break;
            case 9: answer("SI", () -> x.offer(a, b)); break;
            case 10: answer("SI", () -> x.refund(a)); break;
            case 11: answer("SI", () -> x.buyObstacle(a, b)); break;
            case 12: answer("SI", () -> x.sellObstacle(a, b)); break;
            case 13: answer("SI", () -> x.returnObstacle(a)); break;
            case 14: answer("SI", () -> x.grantObstacle(a)); break;
            case 15: answer("SI", () -> x.cheapestWish(a)); break;
            case 16: answer("SI", () -> x.bestGrant(a)); break;
            case 17: answer("SI", () -> x.bestOffer(a)); break;
            case 18: answer("SIA", () -> x.coinsAfter(a, b)); break;
            case 19: answer("SIA", () -> x.valueAfter(a, b)); break;
            case 20: answer("SI", () -> x.daysUntilFaded(a)); break;
            case 21: answer("SI", () -> x.writeStall(a)); break;
            case 22: answer("SI", () -> x.writePerson(a)); break;
            case 23: answer("I", () -> x.outputByte(a)); break;
            case 24: answer("S", () -> x.averageWear()); break;
            case 25: answer("S", () -> x.averageStars()); break;
            case 26: answer("S", () -> x.grantedCount() + x.fadedCount()); break;
            default: searchesAgree(x, a); break;
        }
    }

    /** What a search finds can be carried out, and nothing can be when it finds nothing. */
    private static void searchesAgree(WishMarket x, int i) {
        boolean loaded = answer("S", () -> x.day());
        if (!loaded || i < 0 || i >= x.personCount()) {
            return;
        }
        int other = draw(16);
        int stall = draw(x.stallCount());
        int wish = x.cheapestWish(i);
        int grant = x.bestGrant(i);
        calls += 20;
        Checks.due(wish == WishMarket.NONE || x.buyObstacle(i, wish) == 0, true);
        Checks.due(grant == WishMarket.NONE || x.grantObstacle(grant) == 0 && x.owner(grant) == i, true);
        if (isWish(x, other)) {
            int best = x.bestOffer(other);
            Checks.due(x.buyObstacle(i, other) != 0
                    || wish != WishMarket.NONE && x.price(wish) <= x.price(other), true);
            Checks.due(x.sellObstacle(other, stall) != 0
                    || best != WishMarket.NONE && x.offer(other, best) >= x.offer(other, stall), true);
        }
    }

    private static boolean isWish(WishMarket x, int wish) {
        try {
            x.wear(wish);
            return true;
        } catch (IndexOutOfBoundsException e) {
            return false;
        }
    }

    /** Says whether the call answered; S, I and A stand for the exceptions that it may throw instead. */
    private static boolean answer(String allowed, Checks.Call call) {
        calls++;
        try {
            call.answer();
            answers++;
            return true;
        } catch (RuntimeException e) {
            Class<?> kind = e.getClass();
            boolean right = kind == Checks.STATE && allowed.contains("S")
                    || kind == Checks.INDEX && allowed.contains("I")
                    || kind == Checks.ARGUMENT && allowed.contains("A");
            if (!right) {
                e.printStackTrace(System.out);
            }
            Checks.due(right, true);
            return false;
        }
    }
}
