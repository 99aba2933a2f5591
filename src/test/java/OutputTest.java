/** Promises 52 to 54: text output. */
public final class OutputTest {
    public static void main(String[] args) {
        stalls();
        persons();
        bytes();
        Checks.end();
    }

    private static void stalls() {
        WishMarket x = Checks.market("market 9;stall 8 0 50 100;stall 1 99 0 0;person a 999 0 0;"
                + "wish abcdef 99 0 at 0;wish b 20 0 at 1;wish c 1 0 at 0;wish zz 30 0 with 0;wish d 50 0 at 0 worn 5");
        Checks.due(Checks.output(x, x.writeStall(0)), "abcdef=198 c=2 d=50");
        Checks.due(Checks.output(x, x.writeStall(1)), "b=10");
        x.buy(0, 1);
        Checks.due(Checks.output(x, x.writeStall(1)), "-");
        x.sell(3, 1);
        Checks.due(Checks.output(x, x.writeStall(1)), "zz=15");
    }

    private static void persons() {
        WishMarket x = Checks.market("market 9;stall 8 0 50 0;person a 0 0 0;person uvwxyz 999 0 0;"
                + "wish abcdef 99 0 with 1;wish b 20 0 with 1;wish c 1 0 at 0;wish d 30 0 with 1;wish e 50 0 with 1");
        Checks.due(Checks.output(x, x.writePerson(0)), "a:0");
        Checks.due(Checks.output(x, x.writePerson(1)), "uvwxyz:999 abcdef b d e");
        x.grant(1);
        x.buy(1, 2);
        Checks.due(Checks.output(x, x.writePerson(1)), "uvwxyz:998 abcdef c d e");
        Checks.due(Checks.output(x, x.writePerson(0)), "a:0");
    }

    private static void bytes() {
        WishMarket x = Checks.market("market 9;stall 8 0 50 0;person a 10 0 0");
        Checks.thrown(Checks.INDEX, () -> x.outputByte(0));
        Checks.thrown(Checks.INDEX, () -> x.outputByte(-1));
        Checks.due(x.writePerson(0), 4);
        Checks.due(x.outputByte(0), (int) 'a');
        Checks.due(x.outputByte(1), (int) ':');
        Checks.due(x.outputByte(3), (int) '0');
        for (int wrong : new int[] {-1, 4, Integer.MIN_VALUE, Integer.MAX_VALUE}) {
            Checks.thrown(Checks.INDEX, () -> x.outputByte(wrong));
        }
        // A call that throws leaves the output as it was.
        Checks.thrown(Checks.INDEX, () -> x.writeStall(1));
        Checks.thrown(Checks.INDEX, () -> x.writePerson(1));
        Checks.due(x.outputByte(0), (int) 'a');
        // The output shows what was written, whatever changes then.
        x.saveState(0);
        x.advance(1);
        x.undo();
        x.restoreState(0);
        Checks.due(Checks.output(x, 4), "a:10");
        Checks.due(Checks.output(x, x.writeStall(0)), "-");
    }
}
