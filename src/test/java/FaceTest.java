import java.lang.reflect.Constructor;
import java.lang.reflect.Field;
import java.lang.reflect.Member;
import java.lang.reflect.Method;
import java.lang.reflect.Modifier;
import java.util.Set;
import java.util.TreeSet;

/** The public face: the class, its constants, its constructor and its methods are those of the document, no more. */
public final class FaceTest {
    private static final String STATE = " throws IllegalStateException";
    private static final String INDEX = " throws IndexOutOfBoundsException";
    private static final String STATE_ARGUMENT = STATE + " IllegalArgumentException";
    private static final String STATE_INDEX = STATE + " IndexOutOfBoundsException";
    private static final String STATE_INDEX_ARGUMENT = STATE_INDEX + " IllegalArgumentException";

    public static void main(String[] args) {
        constants();
        members();
        Checks.due(methods(), dueMethods());
        Checks.end();
    }

    private static void constants() {
        Checks.due(WishMarket.NONE, -1);
        Checks.due(WishMarket.SYNTAX_ERROR, 1);
        Checks.due(WishMarket.RANGE_ERROR, 2);
        Checks.due(WishMarket.CONFLICT_ERROR, 3);
        Checks.due(WishMarket.LIMIT_ERROR, 4);
        Set<String> names = new TreeSet<>();
        for (Field field : WishMarket.class.getFields()) {
            names.add(field.toString());
        }
        String type = "public static final int WishMarket.";
        Checks.due(names, new TreeSet<>(Set.of(type + "NONE", type + "SYNTAX_ERROR", type + "RANGE_ERROR",
                type + "CONFLICT_ERROR", type + "LIMIT_ERROR")));
    }

    private static void members() {
        Checks.due(WishMarket.class.getModifiers(), Modifier.PUBLIC | Modifier.FINAL);
        Constructor<?>[] constructors = WishMarket.class.getDeclaredConstructors();
        Checks.due(constructors.length, 1);
        Checks.due(constructors[0].toString(), "public WishMarket()");
        for (Field field : WishMarket.class.getDeclaredFields()) {
            onlyPublicOrPrivate(field);
        }
        for (Method method : WishMarket.class.getDeclaredMethods()) {
            onlyPublicOrPrivate(method);
            for (String due : dueMethods()) {
                boolean sameName = due.contains(" " + method.getName() + "(");
                Checks.due(sameName && Modifier.isPrivate(method.getModifiers()), false);
            }
        }
    }

    private static void onlyPublicOrPrivate(Member member) {
        boolean right = Modifier.isPublic(member.getModifiers()) || Modifier.isPrivate(member.getModifiers());
        Checks.due(right || member.isSynthetic(), true);
    }

    private static Set<String> methods() {
        Set<String> found = new TreeSet<>();
        for (Method method : WishMarket.class.getDeclaredMethods()) {
            if (Modifier.isPublic(method.getModifiers())) {
                StringBuilder text = new StringBuilder(method.getReturnType() + " " + method.getName() + "(");
                for (Class<?> type : method.getParameterTypes()) {
                    text.append(type).append(' ');
                }
                text.append(')').append(method.getExceptionTypes().length == 0 ? "" : " throws");
                for (Class<?> type : method.getExceptionTypes()) {
                    text.append(' ').append(type.getSimpleName());
                }
                found.add(text.toString());
            }
        }
        return found;
    }

    private static Set<String> dueMethods() {
        Set<String> due = new TreeSet<>();
        due.add("int append(int int int int int )");
        due.add("int parseSetup(int )" + INDEX + " IllegalArgumentException");
        put(due, "int", "", "", "parseErrorCode parseErrorPosition bufferLength undoCount");
        put(due, "int", "", STATE, "day yearLength dayOfYear grantedCount fadedCount imbalance personCount stallCount"
                + " undo");
        put(due, "double", "", STATE, "averageWear");
        put(due, "float", "", STATE, "averageStars");
        put(due, "int", "int int ", STATE_INDEX, "personLetter wishLetter offer buyObstacle sellObstacle");
        put(due, "int", "int ", STATE_INDEX, "coins birthday candles happiness ownedCount shoppingLimit"
                + " daysUntilBirthday cash stars margin stockCount baseValue strength wear value owner stallOf"
                + " purchaseDay purchasePrice price refund returnObstacle grantObstacle cheapestWish bestGrant"
                + " bestOffer daysUntilFaded writeStall writePerson saveState");
        put(due, "boolean", "int ", STATE_INDEX, "isGranted");
        put(due, "int", "int int ", STATE_INDEX_ARGUMENT, "coinsAfter valueAfter buy sell setLimit setMargin");
        put(due, "int", "int ", STATE_INDEX_ARGUMENT, "returnWish grant");
        put(due, "int", "int ", STATE_ARGUMENT, "advance");
        put(due, "int", "int ", INDEX, "outputByte");
        put(due, "int", "int ", INDEX + " IllegalStateException", "restoreState");
        return due;
    }

    private static void put(Set<String> due, String result, String parameters, String exceptions, String names) {
        for (String name : names.split(" ")) {
            due.add(result + " " + name + "(" + parameters + ")" + exceptions);
        }
    }
}
