import java.lang.reflect.InvocationTargetException;
import java.lang.reflect.Method;
import java.lang.reflect.Modifier;
import java.util.ArrayList;
import java.util.Comparator;
import java.util.List;

/**
 * All promises, 1 to 65: runs of calls, drawn by a fixed rule, whose answers and exceptions are those of Model, a
 * second reading of the document.
 */
public final class ModelTest {
    private static final int RUNS = 700;
    private static final int MOST_CALLS = 512;
    private static final String[] CHANGES = {"advance", "buy", "buy", "sell", "returnWish", "grant", "setLimit",
        "setMargin", "undo", "saveState", "restoreState"};
    private static final String SIGNS = " ;();0123456789abcdefghijklmnopqrstuvwxyz?A\n";

    private static final List<Method> CALLS = new ArrayList<>();

    private static long seed = 65;
    private static int validSetups = 0;
    private static int answered = 0;
    /** What the object of this run has been called and should have answered. */
    private static final List<String> HISTORY = new ArrayList<>();

    /** With two arguments, the number of runs and a seed, other runs are drawn. */
    public static void main(String[] args) throws Exception {
        int runs = args.length == 2 ? Integer.parseInt(args[0]) : RUNS;
        seed = args.length == 2 ? Long.parseLong(args[1]) : seed;
        for (Method method : WishMarket.class.getDeclaredMethods()) {
            if (Modifier.isPublic(method.getModifiers())) {
                CALLS.add(method);
            }
        }
        // The order in which the machine lists methods is not told anywhere.
        CALLS.sort(Comparator.comparing(Method::getName));
        Checks.due(CALLS.size(), 64);
        for (int i = 0; i < runs; i++) {
            run();
        }
        // The runs are worth something only if many setups are valid and many calls answer.
        Checks.due(validSetups > runs / 2, true);
        Checks.due(answered > 100 * runs, true);
        Checks.end();
    }

    private static int draw(int bound) {
        seed = seed * 6364136223846793005L + 1442695040888963407L;
        return (int) ((seed >>> 33) % bound);
    }

    private static int draw(int least, int greatest) {
        return least + draw(greatest - least + 1);
    }

    private static void run() throws Exception {
        WishMarket x = new WishMarket();
        Model y = new Model();
        HISTORY.clear();
        load(x, y);
        if (draw(3) == 0) {
            load(x, y);
        }
        while (HISTORY.size() < 330) {
            int kind = draw(60);
            if (kind == 0) {
                load(x, y);
            } else if (kind < 25) {
                same(x, y, callNamed(CHANGES[draw(CHANGES.length)]));
            } else {
                same(x, y, CALLS.get(draw(CALLS.size())));
            }
        }
        sameState(x, y);
        Checks.due(HISTORY.size() <= MOST_CALLS, true);
    }

    private static Method callNamed(String name) {
        for (Method call : CALLS) {
            if (call.getName().equals(name)) {
                return call;
            }
        }
        throw new IllegalStateException("there is no call of this name: " + name);
    }

    // ---- calls

    private static void same(WishMarket x, Model y, Method call) throws Exception {
        Object[] arguments = new Object[call.getParameterCount()];
        for (int i = 0; i < arguments.length; i++) {
            arguments[i] = argument(call.getName(), i);
        }
        same(x, y, call, arguments);
    }

    private static void same(WishMarket x, Model y, Method call, Object... arguments) throws Exception {
        Method twin = Model.class.getMethod(call.getName(), call.getParameterTypes());
        String due = answer(twin, y, arguments);
        String got = answer(call, x, arguments);
        HISTORY.add(due);
        answered += due.contains("Exception") ? 0 : 1;
        Checks.due(got, due);
        if (!got.equals(due)) {
            // The calls behind a wrong answer tell nothing more.
            HISTORY.forEach(System.out::println);
            Checks.end();
        }
    }

    private static String answer(Method call, Object on, Object... arguments) throws Exception {
        try {
            return call.getName() + List.of(arguments) + " answered " + call.invoke(on, arguments);
        } catch (InvocationTargetException e) {
            return call.getName() + List.of(arguments) + " threw " + e.getCause().getClass().getName();
        }
    }

    private static int argument(String call, int place) {
        if (draw(60) == 0) {
            return draw(2) == 0 ? Integer.MIN_VALUE : Integer.MAX_VALUE;
        }
        if (call.equals("append")) {
            return draw(1 << 30) << 2 | draw(4);
        }
        boolean isDays = call.equals("advance") || place == 1 && call.endsWith("After");
        if (isDays) {
            return draw(12) == 0 ? draw(-2, 305) : draw(0, 9);
        }
        boolean isPercent = place == 1 && (call.equals("setLimit") || call.equals("setMargin"));
        if (isPercent) {
            return draw(-1, call.equals("setLimit") && draw(3) > 0 ? 60 : 210);
        }
        return draw(4) == 0 ? draw(-1, 16) : draw(0, 3);
    }

    /** Every number that tells something of the state. */
    private static void sameState(WishMarket x, Model y) throws Exception {
        for (Method call : CALLS) {
            String name = call.getName();
            boolean looks = call.getParameterCount() == 0 && !name.equals("undo");
            if (looks) {
                same(x, y, call);
            }
        }
        for (String name : "coins candles happiness shoppingLimit writePerson".split(" ")) {
            sameOfEach(x, y, callNamed(name), 6);
        }
        for (String name : "cash stars margin writeStall".split(" ")) {
            sameOfEach(x, y, callNamed(name), 5);
        }
        for (String name : "wear owner stallOf purchaseDay purchasePrice".split(" ")) {
            sameOfEach(x, y, callNamed(name), 16);
        }
    }

    private static void sameOfEach(WishMarket x, Model y, Method call, int count) throws Exception {
        for (int i = 0; i < count; i++) {
            same(x, y, call, i);
        }
    }

    // ---- setups

    private static void load(WishMarket x, Model y) throws Exception {
        String text = setup();
        if (draw(3) == 0) {
            text = spoilt(text);
        }
        int length = text.length();
        String filled = text + "\0".repeat(20);
        for (int i = 0; i + 20 <= filled.length(); i += 20) {
            same(x, y, callNamed("append"), four(filled, i), four(filled, i + 4), four(filled, i + 8),
                    four(filled, i + 12), four(filled, i + 16));
        }
        same(x, y, callNamed("parseSetup"), draw(40) == 0 ? draw(-1, 501) : length);
        same(x, y, callNamed("parseErrorCode"));
        same(x, y, callNamed("parseErrorPosition"));
        validSetups += y.parseErrorCode() == 0 ? 1 : 0;
        if (y.bufferLength() > 0) {
            same(x, y, callNamed("parseSetup"), 0);
        }
    }

    private static int four(String text, int at) {
        return text.charAt(at) << 24 | text.charAt(at + 1) << 16 | text.charAt(at + 2) << 8 | text.charAt(at + 3);
    }

    private static String setup() {
        String text = "market " + draw(4, draw(4) == 0 ? 60 : 9);
        int mostBytes = draw(60, 480);
        for (int tries = 0; tries < 60 && text.length() < mostBytes; tries++) {
            String longer = text + (draw(8) == 0 ? " ; " : ";") + item(draw(4) == 0 ? 2 : 0);
            // Mostly an item stays only if it is right there.
            if (longer.length() <= 480 && (draw(300) == 0 || isRight(longer))) {
                text = longer;
            }
        }
        return text;
    }

    /** Right so far, but for the stall or the person that may be missing yet. */
    private static boolean isRight(String text) {
        try {
            ModelSetup.read(text);
            return true;
        } catch (ModelSetup.Invalid invalid) {
            return invalid.code == WishMarket.LIMIT_ERROR && invalid.position == text.length();
        }
    }

    private static String item(int brackets) {
        if (brackets > 0 && draw(5) == 0) {
            StringBuilder text = new StringBuilder("repeat " + draw(1, 5) + "(" + item(brackets - 1));
            for (int more = draw(3); more > 0; more--) {
                text.append(';').append(item(brackets - 1));
            }
            return text + ")";
        }
        int person = draw(3);
        int wish = draw(5);
        int stall = draw(3);
        switch (draw(24)) {
            case 0: case 1:
                return "stall " + draw(1, 4) + " " + draw(0, 150) + " " + draw(0, 50) + " " + draw(0, 100);
            case 2: case 3:
                return "person " + name() + " " + draw(0, 200) + " " + draw(0, 5) + " " + draw(0, 20) + habits();
            case 4: case 5: case 6: case 7:
                return "wish " + name() + " " + draw(1, 99) + " " + draw(0, 20) + " at " + stall + worn();
            case 8: case 9: case 10:
                return "wish " + name() + " " + draw(1, 99) + " " + draw(0, 20) + " with " + person + worn();
            case 11: return draw(2) == 0 ? "regret " + draw(0, 30) : "fee " + draw(0, 50);
            case 12: case 13: return "limit " + person + " " + draw(0, 90);
            case 14: return "buy " + person + " " + wish;
            case 15: return "sell " + wish + " " + stall;
            case 16: return "return " + wish;
            case 17: return "grant " + wish;
            case 18: return "rename " + wish + " " + name();
            case 19: return "swap " + wish + " " + draw(5);
            case 20: return "gift " + wish + " " + person;
            case 21: return draw(2) == 0 ? "sale " + stall + " " + draw(0, 100) : "auction " + draw(0, 5);
            case 22: return "tax " + draw(0, 5) + " " + draw(0, 50);
            default: return "advance " + (draw(8) == 0 ? draw(1, 300) : draw(1, 9));
        }
    }

    private static String name() {
        return draw(9) == 0 ? "abcdef".substring(draw(6)) : String.valueOf((char) ('a' + draw(26)));
    }

    private static String habits() {
        return new String[] {"", " party", " bargain", " party bargain", " bargain party"}[draw(5)];
    }

    private static String worn() {
        return draw(3) == 0 ? " worn " + draw(0, 9) : "";
    }

    /** With a byte more, less or another, or cut short, or with a token that stands elsewhere in it. */
    private static String spoilt(String text) {
        int at = draw(text.length());
        String before = text.substring(0, at);
        String sign = String.valueOf(SIGNS.charAt(draw(SIGNS.length())));
        switch (draw(5)) {
            case 0: return before;
            case 1: return before + sign + text.substring(at);
            case 2: return before + text.substring(at + 1);
            case 3: return before + sign + text.substring(at + 1);
            default: break;
        }
        String[] tokens = text.split(" ");
        return before + " " + tokens[draw(tokens.length)] + text.substring(at);
    }
}
