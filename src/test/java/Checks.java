/** What the tests share: they compare answers, tell exceptions apart, and load setups that are written as text. */
final class Checks {
    interface Call {
        Object answer();
    }

    interface CallOn {
        Object answer(WishMarket x);
    }

    interface CallAt {
        Object answer(WishMarket x, int index);
    }

    static final Class<IllegalStateException> STATE = IllegalStateException.class;
    static final Class<IndexOutOfBoundsException> INDEX = IndexOutOfBoundsException.class;
    static final Class<IllegalArgumentException> ARGUMENT = IllegalArgumentException.class;

    private static int checked = 0;
    private static int wrong = 0;
    private static String sentence = "";

    private Checks() {
    }

    /** The sentence of the document that the checks behind this call are about; a wrong answer is told with it. */
    static void sentence(String text) {
        sentence = text;
    }

    static void due(Object got, Object want) {
        count(got.equals(want), "answered " + got + ", due is " + want);
    }

    /** The class has to be the very one: the machine's exceptions are subclasses of the ones that are due. */
    static void thrown(Class<? extends RuntimeException> want, Call call) {
        String got;
        try {
            got = "answered " + call.answer();
        } catch (RuntimeException e) {
            got = e.getClass() == want ? "" : "threw " + e;
        }
        count(got.isEmpty(), got + ", due is " + want.getSimpleName());
    }

    /** Appends the text, filled up with bytes that start no token, and answers its length. */
    static int append(WishMarket x, String text) {
        StringBuilder filled = new StringBuilder(text);
        while (filled.length() % 20 != 0) {
            filled.append('#');
        }
        for (int i = 0; i < filled.length(); i += 20) {
            int length = x.append(four(filled, i), four(filled, i + 4), four(filled, i + 8), four(filled, i + 12),
                    four(filled, i + 16));
            if (length == WishMarket.NONE) {
                throw new IllegalStateException("a test's setup is too long: " + text);
            }
        }
        return text.length();
    }

    private static int four(CharSequence text, int at) {
        return text.charAt(at) << 24 | text.charAt(at + 1) << 16 | text.charAt(at + 2) << 8 | text.charAt(at + 3);
    }

    static int load(WishMarket x, String text) {
        return x.parseSetup(append(x, text));
    }

    static WishMarket market(String text) {
        WishMarket x = new WishMarket();
        load(x, text);
        due(x.parseErrorCode(), 0);
        due(x.parseErrorPosition(), WishMarket.NONE);
        return x;
    }

    static void valid(String text) {
        error(text, -1, 0);
    }

    /** The mark ^ stands in front of the token with the error; it is not part of the setup. */
    static void syntaxError(String marked) {
        error(marked, marked.indexOf('^'), WishMarket.SYNTAX_ERROR);
    }

    static void rangeError(String marked) {
        error(marked, marked.indexOf('^'), WishMarket.RANGE_ERROR);
    }

    static void conflictError(String marked) {
        error(marked, marked.indexOf('^'), WishMarket.CONFLICT_ERROR);
    }

    static void limitError(String marked) {
        error(marked, marked.indexOf('^'), WishMarket.LIMIT_ERROR);
    }

    private static void error(String marked, int position, int code) {
        WishMarket x = new WishMarket();
        int thrown = 0;
        try {
            load(x, marked.replace("^", ""));
        } catch (IllegalArgumentException e) {
            thrown = 1;
        }
        String got = "code " + x.parseErrorCode() + " at " + x.parseErrorPosition();
        String want = "code " + code + " at " + position;
        count(got.equals(want) && thrown == (code == 0 ? 0 : 1), got + ", due is " + want + ": " + marked);
    }

    /** The call answers, whatever it answers. */
    static void answered(Call call) {
        String got = "";
        try {
            call.answer();
        } catch (RuntimeException e) {
            got = "threw " + e + ", due is an answer";
        }
        count(got.isEmpty(), got);
    }

    /** The whole output. */
    static String output(WishMarket x, int length) {
        StringBuilder text = new StringBuilder();
        for (int i = 0; i < length; i++) {
            text.append((char) x.outputByte(i));
        }
        thrown(INDEX, () -> x.outputByte(length));
        return text.toString();
    }

    static String wishName(WishMarket x, int wish) {
        StringBuilder name = new StringBuilder();
        for (int i = 0; x.wishLetter(wish, i) != WishMarket.NONE; i++) {
            name.append((char) x.wishLetter(wish, i));
        }
        return name.toString();
    }

    private static void count(boolean right, String text) {
        checked++;
        if (!right) {
            wrong++;
            System.out.println(place() + ": " + text + (sentence.isEmpty() ? "" : "; \"" + sentence + "\""));
        }
    }

    private static String place() {
        for (StackTraceElement frame : new Throwable().getStackTrace()) {
            if (!frame.getClassName().equals("Checks")) {
                return frame.getFileName() + ":" + frame.getLineNumber();
            }
        }
        return "?";
    }

    /** Tells the outcome of a test class, and ends with exit code 1 if an answer was wrong. */
    static void end() {
        System.out.println(checked + " answers, " + wrong + " wrong");
        if (wrong != 0 || checked == 0) {
            System.exit(1);
        }
    }
}
