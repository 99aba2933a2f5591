import java.util.Arrays;

/** Section 6, the grammar: each token of each kind of item, missing, or with another token in its place. */
public final class GrammarTest {
    /** Wish 0 can be bought, wish 1 sold and granted, wish 2 returned; person 1 owns wish 3. */
    private static final String H = "market 9;stall 8 99 0 0;person a 99 0 9;person b 99 0 9;wish k 9 0 at 0;"
            + "wish l 9 0 with 0;wish m 9 0 at 0;wish n 9 0 with 1;buy 0 2;";

    /**
     * An item, and what stands at its places: I the word of the item, N a number, A a name, P "at" or "with", H a habit
     * that may be left out, W "worn" that may be left out, B an opening and E a closing bracket.
     */
    private static final String[][] ITEMS = {{"stall 1 0 0 0", "INNNN"}, {"person z 0 0 0 party bargain", "IANNNHH"},
        {"person z 0 0 0 bargain party", "IANNNHH"}, {"wish z 1 0 at 0 worn 0", "IANNPNWN"},
        {"wish z 1 0 with 0", "IANNPN"},
        {"regret 0", "IN"}, {"fee 0", "IN"}, {"limit 0 0", "INN"}, {"buy 0 0", "INN"}, {"sell 1 0", "INN"},
        {"return 2", "IN"}, {"grant 1", "IN"}, {"rename 0 z", "INA"}, {"swap 1 3", "INN"}, {"gift 1 1", "INN"},
        {"sale 0 0", "INN"}, {"auction 0", "IN"}, {"tax 0 0", "INN"}, {"advance 1", "IN"},
        {"repeat 1 ( fee 0 )", "INBINE"}, {"repeat 2 ( repeat 2 ( fee 0 ) )", "INBINBINEE"}};

    private static final String[] TOKENS = {"zz", "market", "party", "bargain", "at", "worn", "0", "999", "(", ")", ";",
        "abcdefgh", "0000", "?"};

    public static void main(String[] args) {
        whole();
        wrongTokens();
        endsTooEarly();
        firstTokens();
        otherWords();
        everyByte();
        Checks.end();
    }

    private static void whole() {
        Checks.sentence("The grammar is: setup = \"market\" days { \";\" item }");
        for (String[] item : ITEMS) {
            Checks.valid(H + item[0]);
            Checks.valid(H + item[0] + ";fee 0");
            Checks.valid((H + item[0]).replace(" ", "   ").replace(";", "  ;  ") + "   ");
            Checks.valid(H + item[0].replace(" ( ", "(").replace(" )", ")"));
        }
    }

    private static void wrongTokens() {
        Checks.sentence("the grammar does not allow the token here");
        for (String[] item : ITEMS) {
            String[] tokens = item[0].split(" ");
            for (int i = 0; i <= tokens.length; i++) {
                String before = H + String.join(" ", Arrays.copyOf(tokens, i)) + " ^";
                char place = i < tokens.length ? item[1].charAt(i) : '.';
                for (String token : TOKENS) {
                    if (!mayStand(place, token, item[0])) {
                        Checks.syntaxError(before + token);
                        Checks.syntaxError(before + token + " 0;fee 0");
                    }
                }
            }
        }
    }

    private static boolean mayStand(char place, String token, String item) {
        boolean isWord = token.matches("[a-z]{1,7}");
        boolean behind = token.equals(";") || item.startsWith("person") && (token.equals("party")
                || token.equals("bargain"))
                || item.startsWith("wish") && !item.contains("worn") && token.equals("worn");
        switch (place) {
            case 'N': return token.matches("[0-9]{1,3}");
            case 'A': return isWord;
            case 'P': return token.equals("at");
            case 'B': return token.equals("(");
            case 'E': return token.equals(")") || token.equals(";");
            case 'W': return token.equals("worn") || token.equals(";");
            case 'I': return false;
            default: return behind;
        }
    }

    private static void endsTooEarly() {
        Checks.sentence("the number of parsed bytes if the setup ended too early");
        for (String[] item : ITEMS) {
            String[] tokens = item[0].split(" ");
            for (int i = 0; i < tokens.length; i++) {
                String begun = H + String.join(" ", Arrays.copyOf(tokens, i));
                char place = item[1].charAt(i);
                if (place == 'H' || place == 'W') {
                    Checks.valid(begun);
                } else {
                    Checks.syntaxError(begun + "^");
                    Checks.syntaxError(begun + "  ^");
                }
            }
        }
        String[] beginnings = {"", " ", "market", "market ", "market 9;", "market 9 ; ", "market 9;stall 1 0 0 0;"};
        for (String text : beginnings) {
            Checks.syntaxError(text + "^");
        }
    }

    private static void firstTokens() {
        Checks.sentence("setup = \"market\" days");
        for (String token : TOKENS) {
            if (!token.equals("market")) {
                Checks.syntaxError("^" + token + " 9;stall 1 0 0 0;person a 0 0 0");
            }
            if (!token.equals("0") && !token.equals("999")) {
                Checks.syntaxError("market ^" + token + " 9;stall 1 0 0 0;person a 0 0 0");
            }
            if (!token.equals(";")) {
                Checks.syntaxError("market 9 ^" + token + " ;stall 1 0 0 0;person a 0 0 0");
            }
        }
    }

    /** A word with one letter more, less or another is another word, which is allowed nowhere but as a name. */
    private static void otherWords() {
        Checks.sentence("the grammar does not allow the token here");
        otherWords("#market 9;stall 1 0 0 0;person a 0 0 0");
        for (String[] item : ITEMS) {
            otherWords(H + "#" + item[0]);
        }
        otherWords(H + "person z 0 0 0 #party");
        otherWords(H + "person z 0 0 0 #bargain");
        otherWords(H + "person z 0 0 0 party #bargain");
        otherWords(H + "wish z 1 0 #at 0");
        otherWords(H + "wish z 1 0 #with 0");
        otherWords(H + "wish z 1 0 at 0 #worn 0");
        for (char first = 'a'; first <= 'z'; first++) {
            Checks.syntaxError(H + "wish z 1 0 ^" + first + " 0");
            for (char second = 'a'; second <= 'z'; second++) {
                if (first != 'a' || second != 't') {
                    Checks.syntaxError(H + "wish z 1 0 ^" + first + second + " 0");
                }
            }
        }
    }

    /** The mark # stands in front of the word. */
    private static void otherWords(String text) {
        String before = text.substring(0, text.indexOf('#')) + "^";
        String word = text.substring(before.length()).split(" ")[0];
        String behind = text.substring(before.length() + word.length());
        for (int i = 0; i < word.length(); i++) {
            String begun = before + word.substring(0, i);
            for (char letter = 'a'; letter <= 'z'; letter++) {
                if (letter != word.charAt(i)) {
                    Checks.syntaxError(begun + letter + word.substring(i + 1) + behind);
                }
                Checks.syntaxError(begun + letter + word.substring(i) + behind);
            }
            Checks.syntaxError(begun + word.substring(i + 1) + behind);
        }
        Checks.syntaxError(before + word + "s" + behind);
    }

    private static void everyByte() {
        String setup = "market 9;stall 1 0 0 0;person a 0 0 0";
        for (char sign = 0; sign < 256; sign++) {
            if (sign == ' ') {
                Checks.sentence("Spaces (byte 32) may stand between tokens.");
                Checks.valid(sign + setup + sign + ";fee 0" + sign);
                continue;
            }
            Checks.sentence("SYNTAX_ERROR: the byte starts no token");
            // The mark of a test's error would itself be such a byte.
            String text = sign == '^' ? "" : String.valueOf(sign);
            if (sign != '^' && sign != 'm') {
                Checks.syntaxError("^" + text + " " + setup);
            }
            if (sign == ';') {
                Checks.syntaxError(setup + " ;^");
            } else if (sign != '^') {
                Checks.syntaxError(setup + " ^" + text);
                Checks.syntaxError(setup + " ^" + text + ";fee 0");
            }
            boolean isDigit = sign >= '0' && sign <= '9';
            boolean isLetter = sign >= 'a' && sign <= 'z';
            if (!isDigit && sign != ';' && sign != '^') {
                Checks.syntaxError(setup + "^" + text + ";fee 0");
            }
            if (!isDigit && !isLetter && sign != '^') {
                Checks.syntaxError("market 9;stall 1 0 0 0;person a^" + text + "0 0 0");
            }
        }
        WishMarket x = new WishMarket();
        Checks.append(x, setup + " ^");
        Checks.thrown(Checks.ARGUMENT, () -> x.parseSetup(setup.length() + 2));
        Checks.due(x.parseErrorCode(), WishMarket.SYNTAX_ERROR);
        Checks.due(x.parseErrorPosition(), setup.length() + 1);
    }
}
