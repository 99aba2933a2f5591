/** Promises 3 to 5 and section 6: which setups are valid, and which error is told at which token. */
public final class SetupErrorTest {
    /** A market in which every kind of item can be tried. */
    private static final String H = "market 9;stall 2 99 0 0;stall 1 0 0 0;person a 99 0 9;person b 0 3 0;"
            + "wish x 20 9 at 0;wish y 20 0 with 0;";

    public static void main(String[] args) {
        tokens();
        spaces();
        market();
        stallsAndPersons();
        wishes();
        settings();
        trades();
        renames();
        swapsAndGifts();
        advances();
        repeats();
        endings();
        names();
        Checks.end();
    }

    private static void tokens() {
        Checks.syntaxError("^");
        Checks.syntaxError("   ^");
        Checks.syntaxError("^#market 9");
        Checks.syntaxError("^Market 9");
        Checks.syntaxError("market^-1");
        Checks.syntaxError("market ^\t9");
        Checks.syntaxError("^9");
        Checks.syntaxError("^;");
        Checks.syntaxError("^(market 9)");
        Checks.syntaxError("^markets 9");
        Checks.syntaxError("^marke 9");
        Checks.syntaxError("^narket 9");
        Checks.syntaxError("^markex 9");
        Checks.syntaxError(H + "^xtall 1 0 0 0");
        Checks.syntaxError(H + "^see 1");
        Checks.syntaxError(H + "wish z 1 0 ^it 0");
        Checks.syntaxError(H + "wish z 1 0 at 0 ^torn 0");
        Checks.syntaxError(H + "person z 1 0 0 ^warty");
        Checks.syntaxError("^marketmarket 9");
        Checks.syntaxError("^stall 9");
        Checks.syntaxError("market ^0009");
        Checks.syntaxError("market ^9999999999999999999999");
        Checks.syntaxError("market ^nine");
        Checks.syntaxError("market ^;");
        Checks.syntaxError("market^");
        Checks.syntaxError("market  ^");
        Checks.syntaxError("market 9 ^stall");
        Checks.syntaxError("market 9 ^9");
        Checks.syntaxError("market 9 ^)");
        Checks.syntaxError("market 9 ^(");
        Checks.syntaxError("market 9;^");
        Checks.syntaxError("market 9; ^");
        Checks.syntaxError("market 9;^;stall 1 1 1 1");
        Checks.syntaxError("market 9;^market 9");
        Checks.syntaxError("market 9;^stalls 1 1 1 1");
        Checks.syntaxError("market 9;^party");
        Checks.syntaxError("market 9;^at");
        Checks.syntaxError("market 9;^x");
        Checks.syntaxError("market 9;^1");
        Checks.syntaxError("market 9;^(stall 1 1 1 1)");
        Checks.syntaxError("market 9;stall 1 1 1 1 ^1");
        Checks.syntaxError("market 9;stall 1 1 1 1 ^$");
        Checks.syntaxError("market 9;stall 1 1 1 1 ^abcdefgh");
        Checks.syntaxError("market 9;stall 1 1 1 1 ^1234");
        Checks.syntaxError("market 9;stall 1 1 1 1;^)");
    }

    private static void spaces() {
        Checks.valid("market9;stall1 0 0 0;person a0 0 0party bargain;wish x1 0at0worn0");
        Checks.valid("  market   009 ; stall 001 000 0 00 ;person  a 0 0 0  ");
        Checks.valid("market 9;stall 1 0 0 0;person a 0 0 0;repeat 1(regret 1)");
        Checks.valid("market 9;stall 1 0 0 0;person a 0 0 0;repeat 1 ( regret 1 ) ;fee 1 ");
        Checks.syntaxError("market 9;stall1 0 0 0;person a0 0 0 party^0");
    }

    private static void market() {
        Checks.valid("market 4;stall 1 0 0 0;person a 0 3 0");
        Checks.valid("market 60;stall 1 0 0 0;person a 0 59 0");
        Checks.rangeError("market ^3;stall 1 0 0 0;person a 0 0 0");
        Checks.rangeError("market ^0");
        Checks.rangeError("market ^61;stall 1 0 0 0;person a 0 0 0");
        Checks.rangeError("market ^999");
    }

    private static void stallsAndPersons() {
        String p = ";person a 0 0 0";
        Checks.valid("market 9;stall 1 0 0 0" + p);
        Checks.valid("market 9;stall 8 999 50 100" + p);
        Checks.rangeError("market 9;stall ^0 0 0 0" + p);
        Checks.rangeError("market 9;stall ^9 0 0 0" + p);
        Checks.syntaxError("market 9;stall 1 ^1000 0 0" + p);
        Checks.rangeError("market 9;stall 1 0 ^51 0" + p);
        Checks.rangeError("market 9;stall 1 0 0 ^101" + p);
        Checks.syntaxError("market 9;stall 1 0 0 ^" + p);
        Checks.syntaxError("market 9;stall ^" + p);
        String s = "market 9;stall 1 0 0 0;";
        Checks.valid(s + "person abcdef 999 8 99 party bargain");
        Checks.valid(s + "person a 0 0 0 bargain party");
        Checks.valid(s + "person person 0 0 0 bargain;person market 0 0 0;person at 0 0 0");
        Checks.rangeError(s + "person ^abcdefg 0 0 0");
        Checks.rangeError(s + "person ^bargain 0 0 0");
        Checks.syntaxError(s + "person ^abcdefgh 0 0 0");
        Checks.syntaxError(s + "person ^1 0 0 0");
        Checks.syntaxError(s + "person a ^b 0 0");
        Checks.rangeError(s + "person a 0 ^9 0");
        Checks.syntaxError(s + "person a 0 0 ^1000");
        Checks.rangeError(s + "person a 0 0 ^100");
        Checks.syntaxError(s + "person a 0 0 ^party");
        Checks.syntaxError(s + "person a 0 0 0 ^partly");
        Checks.syntaxError(s + "person a 0 0 0 party ^at");
        Checks.conflictError(s + "person a 0 0 0 party ^party");
        Checks.conflictError(s + "person a 0 0 0 bargain ^bargain");
        Checks.conflictError(s + "person a 0 0 0 party bargain ^party");
        Checks.conflictError(s + "person a 0 0 0 party bargain ^bargain");
        Checks.conflictError(s + "person a 0 0 0;person b 0 0 0;person ^a 0 0 0");
        Checks.conflictError(s + "person a 0 0 0;person b 0 0 0;person ^b 0 0 0");
        Checks.valid(s + "person a 0 0 0;person aa 0 0 0;person aaaaaa 0 0 0;person b 0 0 0");
        Checks.valid(s + "person a 0 0 0 party;person b 0 0 0 party");
        String six = s + "person a 0 0 0;person b 0 0 0;person c 0 0 0;person d 0 0 0;person e 0 0 0;person f 0 0 0";
        Checks.valid(six);
        Checks.limitError(six + ";^person f 0 0 0");
        Checks.limitError(six + ";^person");
        String five = "market 9;person a 0 0 0;repeat 5(stall 1 0 0 0)";
        Checks.valid(five);
        Checks.limitError(five + ";^stall 0");
    }

    private static void wishes() {
        Checks.valid(H + "wish market 1 0 at 1 worn 0");
        Checks.valid(H + "wish z 99 99 with 1 worn 9");
        Checks.valid(H + "wish a 1 1 at 0");
        Checks.rangeError(H + "wish ^bargain 1 0 at 1");
        Checks.syntaxError(H + "wish ^( 1 0 at 1");
        Checks.conflictError(H + "wish ^x 0 0 at 1");
        Checks.conflictError(H + "wish ^y 1 0 at 1");
        Checks.rangeError(H + "wish z ^0 0 at 1");
        Checks.rangeError(H + "wish z ^100 0 at 1");
        Checks.rangeError(H + "wish z 1 ^100 at 1");
        Checks.syntaxError(H + "wish z 1 0 ^1");
        Checks.syntaxError(H + "wish z 1 0 ^worn 1");
        Checks.syntaxError(H + "wish z 1 0 ^");
        Checks.syntaxError(H + "wish z 1 0 at ^with");
        Checks.rangeError(H + "wish z 1 0 at ^2");
        Checks.rangeError(H + "wish z 1 0 with ^2");
        Checks.rangeError(H + "wish z 1 0 at 1 worn ^10");
        Checks.syntaxError(H + "wish z 1 0 at 1 worn ^;");
        Checks.syntaxError(H + "wish z 1 0 at 1 ^at");
        Checks.syntaxError(H + "wish z 1 0 at 1 worn 1 ^worn");
        Checks.rangeError("market 9;person a 0 0 0;wish z 1 0 at ^0");
        Checks.rangeError("market 9;stall 1 0 0 0;wish z 1 0 with ^0");
        Checks.valid(H + "wish z 1 0 at 0;wish w 1 0 at 1");
        Checks.conflictError(H + "wish z 1 0 at 0;wish w 1 0 at ^0");
        Checks.conflictError(H + "wish z 1 0 at 1;wish w 1 0 at ^1");
        String owned = H + "wish l 1 0 with 0;wish m 1 0 with 0;wish n 1 0 with 0";
        Checks.valid(owned);
        Checks.conflictError(owned + ";wish o 1 0 with ^0");
        Checks.valid(owned + ";wish o 1 0 with 1");
        String sixteen = "market 9;repeat 2(stall 8 0 0 0);person a 0 0 0"
                + ";wish a 1 0 at 0;wish b 1 0 at 0;wish c 1 0 at 0;wish d 1 0 at 0;wish e 1 0 at 0;wish f 1 0 at 0"
                + ";wish g 1 0 at 0;wish h 1 0 at 0;wish i 1 0 at 1;wish j 1 0 at 1;wish k 1 0 at 1;wish l 1 0 at 1"
                + ";wish m 1 0 at 1;wish n 1 0 at 1;wish o 1 0 at 1;wish p 1 0 with 0";
        Checks.valid(sixteen);
        Checks.limitError(sixteen + ";^wish");
        Checks.limitError(sixteen + ";^wish q 1 0 with 0");
        // A wish that has faded or has been granted keeps its number and its name.
        Checks.limitError(sixteen.replace("with 0", "with 0 worn 9") + ";advance 9;^wish q 1 0 with 0");
        Checks.conflictError(H + "grant 1;wish ^y 1 0 at 1");
        Checks.conflictError(H + "wish z 1 0 at 1 worn 9;advance 9;wish ^z 1 0 at 1");
        Checks.valid(H + "wish z 1 0 at 1 worn 9;advance 9;wish w 1 0 at 1");
    }

    private static void settings() {
        Checks.valid(H + "regret 0;regret 30;fee 0;fee 50;limit 0 0;limit 1 200;sale 0 0;sale 1 100");
        Checks.valid(H + "auction 0;auction 8;tax 0 0;tax 8 50");
        Checks.rangeError(H + "regret ^31");
        Checks.rangeError(H + "fee ^51");
        Checks.rangeError(H + "limit ^2 0");
        Checks.rangeError(H + "limit 0 ^201");
        Checks.rangeError(H + "sale ^2 0");
        Checks.rangeError(H + "sale 0 ^101");
        Checks.rangeError(H + "auction ^9");
        Checks.rangeError(H + "tax ^9 0");
        Checks.rangeError(H + "tax 0 ^51");
        Checks.syntaxError(H + "regret ^x");
        Checks.syntaxError(H + "fee ^");
        Checks.syntaxError(H + "fee ^percent");
        Checks.syntaxError(H + "limit 0 ^;");
        Checks.syntaxError(H + "sale 0^");
        Checks.syntaxError(H + "auction ^)");
        Checks.syntaxError(H + "tax 0 ^;");
        Checks.rangeError("market 9;limit ^0 0");
        Checks.rangeError("market 9;sale ^0 0");
    }

    private static void trades() {
        Checks.valid(H + "buy 0 0");
        Checks.valid(H + "buy 0 0;return 0;buy 0 0;sell 0 0");
        Checks.rangeError(H + "buy ^2 0");
        Checks.rangeError(H + "buy 0 ^2");
        Checks.conflictError(H + "buy 0 ^1");
        Checks.conflictError(H + "buy 1 ^0");
        Checks.conflictError(H + "buy 0 0;buy 0 ^0");
        Checks.conflictError(H + "wish l 1 0 with 0;wish m 1 0 with 0;wish n 1 0 with 0;buy 0 ^0");
        Checks.valid(H + "sell 1 0");
        Checks.rangeError(H + "sell ^2 0");
        Checks.rangeError(H + "sell 0 ^2");
        Checks.conflictError(H + "sell 0 ^0");
        Checks.conflictError(H + "sell 1 ^1");
        Checks.conflictError(H + "wish z 1 0 at 0;sell 1 ^0");
        Checks.rangeError(H + "return ^2");
        Checks.conflictError(H + "return ^0");
        Checks.conflictError(H + "return ^1");
        Checks.valid(H + "buy 0 0;advance 3;return 0");
        Checks.conflictError(H + "buy 0 0;advance 4;return ^0");
        Checks.valid(H + "buy 0 0;advance 4;regret 4;return 0");
        Checks.conflictError(H + "buy 0 0;wish l 1 1 at 0;wish m 1 1 at 0;return ^0");
        Checks.valid(H + "grant 1");
        Checks.valid(H + "buy 0 0;grant 0");
        Checks.rangeError(H + "grant ^2");
        Checks.conflictError(H + "grant ^0");
        Checks.conflictError(H + "advance 1;grant ^1");
        Checks.conflictError(H + "gift 1 1;grant ^1");
        Checks.conflictError(H + "wish z 1 10 with 0;grant ^2");
        Checks.conflictError(H + "grant 1;grant ^1");
        Checks.syntaxError(H + "buy 0 ^;");
        Checks.syntaxError(H + "sell ^x 0");
        Checks.syntaxError(H + "return^");
        Checks.syntaxError(H + "grant 1 ^1");
    }

    private static void renames() {
        Checks.valid(H + "rename 0 z;rename 1 x;rename 0 y");
        Checks.valid(H + "rename 0 x");
        Checks.valid(H + "rename 0 a");
        Checks.conflictError(H + "rename 0 ^y");
        Checks.conflictError(H + "rename 1 ^x");
        Checks.conflictError(H + "rename 0 z;wish ^z 1 0 at 1");
        Checks.valid(H + "rename 0 z;wish x 1 0 at 1");
        Checks.rangeError(H + "rename ^2 z");
        Checks.rangeError(H + "rename 0 ^abcdefg");
        Checks.syntaxError(H + "rename 0 ^abcdefgh");
        Checks.syntaxError(H + "rename 0 ^0");
        Checks.syntaxError(H + "rename ^x x");
    }

    private static void swapsAndGifts() {
        String z = H + "wish z 1 0 with 1;";
        Checks.valid(z + "swap 1 2");
        Checks.valid(z + "gift 2 0;swap 2 1");
        Checks.conflictError(z + "swap ^0 1");
        Checks.conflictError(z + "swap ^0 0");
        Checks.conflictError(z + "swap ^0 9");
        Checks.conflictError(z + "swap 1 ^0");
        Checks.conflictError(z + "swap 1 ^1");
        Checks.rangeError(z + "swap ^3 1");
        Checks.rangeError(z + "swap 1 ^3");
        Checks.syntaxError(z + "swap 1 ^;");
        Checks.valid(z + "gift 1 1;gift 1 0");
        Checks.conflictError(z + "gift ^0 1");
        Checks.conflictError(z + "gift ^0 9");
        Checks.conflictError(z + "gift 1 ^0");
        Checks.rangeError(z + "gift ^3 0");
        Checks.rangeError(z + "gift 1 ^2");
        Checks.syntaxError(z + "gift 1 ^with");
        String full = z + "wish l 1 0 with 1;wish m 1 0 with 1;wish n 1 0 with 1";
        Checks.conflictError(full + ";gift 1 ^1");
        Checks.valid(full + ";swap 1 2");
        Checks.valid(full + ";gift 2 0;gift 1 1");
    }

    private static void advances() {
        Checks.valid("market 9;advance 1;stall 1 0 0 0;advance 1;person a 0 0 0;advance 300");
        Checks.rangeError(H + "advance ^0");
        Checks.rangeError(H + "advance ^301");
        Checks.syntaxError(H + "advance ^x");
        Checks.valid(H + "repeat 4(repeat 5(advance 100))");
        Checks.valid(H + "repeat 5(advance 300);advance 300;advance 200");
        Checks.limitError(H + "repeat 5(advance 300);advance 300;advance ^201");
        Checks.limitError(H + "repeat 5(repeat 5(advance ^81))");
        Checks.rangeError(H + "repeat 5(advance 300);advance 300;advance 200;advance ^999");
        Checks.limitError(H + "repeat 5(advance 300);advance 300;advance 200;advance ^1");
    }

    private static void repeats() {
        Checks.valid(H + "repeat 5(fee 1;fee 2);repeat 1(fee 1)");
        Checks.valid(H + "repeat 2(repeat 2(repeat 2(fee 1)))");
        Checks.valid(H + "repeat 2(repeat 2(repeat 2(fee 1);repeat 2(fee 2));repeat 2(repeat 2(fee 1)))");
        Checks.limitError(H + "repeat 2(repeat 2(repeat 2(^repeat 2(fee 1))))");
        Checks.syntaxError(H + "repeat 1(repeat 1(repeat 1(fee 1);fee 1);repeat^");
        Checks.limitError(H + "repeat 1(repeat 1(repeat 1(fee 1;^repeat");
        Checks.rangeError(H + "repeat ^0(fee 1)");
        Checks.rangeError(H + "repeat ^6(fee 1)");
        Checks.syntaxError(H + "repeat ^(fee 1)");
        Checks.syntaxError(H + "repeat 2 ^fee 1");
        Checks.syntaxError(H + "repeat 2 ^");
        Checks.syntaxError(H + "repeat 2(^)");
        Checks.syntaxError(H + "repeat 2(^;fee 1)");
        Checks.syntaxError(H + "repeat 2(fee 1;^)");
        Checks.syntaxError(H + "repeat 2(fee 1^");
        Checks.syntaxError(H + "repeat 2(repeat 2(fee 1)^");
        Checks.syntaxError(H + "repeat 2(repeat 2(fee 1)^(");
        Checks.syntaxError(H + "repeat 2(fee 1)^)");
        Checks.syntaxError(H + "repeat 2(fee 1)^fee 1");
        Checks.syntaxError(H + "fee 1^)");
        Checks.syntaxError(H + "repeat 2(^(fee 1))");
        // An error of a later pass is told at its token, and before what stands behind the bracket.
        Checks.conflictError(H + "repeat 2(wish ^z 1 0 at 0) ???");
        Checks.conflictError(H + "repeat 2(buy 0 ^0)");
        Checks.limitError("market 9;person a 0 0 0;repeat 3(repeat 2(^stall 1 0 0 0))");
        Checks.valid(H + "repeat 5(buy 0 0;return 0)");
        Checks.syntaxError(H + "repeat 2(fee 1)^?");
        Checks.valid(H + "repeat 5(repeat 5(repeat 5(fee1;fee2;fee3;fee4;fee5;fee6;fee7;fee8;fee9;fee1;fee2;fee3;fee4"
                + ";fee1;fee2;fee3;fee4;fee5;fee6;fee7;fee8;fee9;fee1;fee2;fee3;fee4;fee5;fee6;fee7;fee8;fee9)))");
    }

    private static void endings() {
        Checks.limitError("market 9^");
        Checks.limitError("market 9  ^");
        Checks.limitError("market 9;stall 1 0 0 0^");
        Checks.limitError("market 9;person a 0 0 0^");
        Checks.limitError("market 9;regret 1 ^");
        Checks.syntaxError("market 9;stall 1 0 0 0;^");
        Checks.syntaxError("market 9;repeat 2(fee 1^");
        Checks.syntaxError(H + "^");
        Checks.syntaxError(H + "stall^");
        Checks.syntaxError(H + "stall 1 0 0^");
        Checks.syntaxError(H + "person^");
        Checks.syntaxError(H + "person q 0 0 ^");
        Checks.syntaxError(H + "wish^");
        Checks.syntaxError(H + "wish z 1 0 with^");
        Checks.syntaxError(H + "swap 1^");
        Checks.syntaxError(H + "rename 1^");
        Checks.syntaxError(H + "repeat^");
    }

    /** Every name of up to six letters is a name of its own. */
    private static void names() {
        String[] names = {"a", "z", "aa", "az", "za", "ab", "ba", "abc", "cba", "aaaaaa", "zzzzzz", "abcdef", "abcdeg",
            "bbcdef", "zzzzz", "at"};
        StringBuilder text = new StringBuilder("market 9;stall 8 0 0 0;stall 8 0 0 0;person a 0 0 0");
        for (int i = 0; i < names.length; i++) {
            text.append(";wish ").append(names[i]).append(" 1 0 at ").append(i / 8);
        }
        WishMarket x = Checks.market(text.toString());
        for (int i = 0; i < names.length; i++) {
            Checks.due(Checks.wishName(x, i), names[i]);
        }
    }
}
