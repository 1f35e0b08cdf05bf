/** Promises 35 to 38: what was seen, strikes, what is known, how sweet a fruit is by it. */
public final class SeenTest {
    private static final Check CHECK = new Check("SeenTest");
    private static final String TWO = "guest a 99 0 2;guest b 99 50 3;fruit p 5 0;fruit q 0 0;";
    private static final int ALL = 1023;

    private static void seeing() {
        WaxBowl x = CHECK.told(TWO);
        CHECK.due("steps below", x.see(0, 0, 5, true), WaxBowl.NONE);
        CHECK.due("steps beyond", x.see(100, 0, 5, true), WaxBowl.NONE);
        CHECK.due("guest below", x.see(1, -1, 5, true), WaxBowl.NONE);
        CHECK.due("guest beyond", x.see(1, 2, 5, true), WaxBowl.NONE);
        CHECK.due("hunger below", x.see(1, 0, -1, true), WaxBowl.NONE);
        CHECK.due("hunger beyond", x.see(1, 0, 100, true), WaxBowl.NONE);
        CHECK.due("none seen", x.count(10), 0);
        CHECK.due("first", x.see(1, 0, 0, true), 0);
        CHECK.due("second", x.see(99, 1, 99, false), 1);
        CHECK.due("no strike of what comes", x.strike(2), WaxBowl.NONE);
        CHECK.due("no strike below", x.strike(-1), WaxBowl.NONE);
        CHECK.due("a strike", x.strike(1), 2);
        CHECK.due("a strike of it", x.strike(2), 3);
        for (int i = 4; i < 24; i++) {
            CHECK.due("seen " + i, i % 2 == 0 ? x.see(1, 0, 0, true) : x.strike(0), i);
        }
        CHECK.due("there are 24", x.see(1, 0, 0, true), WaxBowl.NONE);
        CHECK.due("there are 24", x.strike(0), WaxBowl.NONE);
        CHECK.due("count", x.count(10), 24);
        CHECK.due("known by 24", x.known(24), true);
        CHECK.due("no 25", x.known(25), false);
        CHECK.due("sweets of 24", x.sweets(0), ALL);
    }

    private static void sweets() {
        WaxBowl x = CHECK.told(TWO);
        CHECK.due("nothing seen", x.sweets(0), ALL);
        CHECK.due("below", x.sweets(-1), WaxBowl.NONE);
        CHECK.due("beyond", x.sweets(2), WaxBowl.NONE);
        x.see(1, 1, 45, true);
        CHECK.due("4 at most", x.sweets(0), 0b11111);
        CHECK.due("with its own 5 the other one can't help", x.sweets(1), 0);
        x.see(1, 1, 46, false);
        CHECK.due("4", x.sweets(0), 0b10000);
        CHECK.due("strike", x.strike(1), 2);
        CHECK.due("struck", x.sweets(0), 0b11111);
        CHECK.due("strike of the strike", x.strike(2), 3);
        CHECK.due("the strike doesn't count", x.sweets(0), 0b10000);
        CHECK.due("known by 3", x.known(3), true);
        CHECK.due("the strike counts", x.sweets(0), 0b11111);
        CHECK.due("known by 2", x.known(2), true);
        CHECK.due("both", x.sweets(0), 0b10000);
        CHECK.due("known by 1", x.known(1), true);
        CHECK.due("the first", x.sweets(0), 0b11111);
        CHECK.due("known by 0", x.known(0), true);
        CHECK.due("nothing", x.sweets(0), ALL);
        CHECK.due("known by 4", x.known(4), true);
        CHECK.due("known by 5", x.known(5), false);
        CHECK.due("known by -2", x.known(-2), false);
        CHECK.due("by 4 still", x.count(11), 4);
        CHECK.due("struck anew", x.strike(0), 4);
        CHECK.due("that isn't known", x.sweets(0), 0b10000);
        CHECK.due("known by all", x.known(-1), true);
        CHECK.due("that is", x.sweets(0), 0b1111110000);
        CHECK.due("known by 1", x.known(1), true);
        CHECK.due("it isn't struck then", x.sweets(0), 0b11111);
        CHECK.due("known by all", x.known(-1), true);
        CHECK.due("also those to come", x.strike(1), 5);
        CHECK.due("nothing is left", x.sweets(0), ALL);
        CHECK.due("a strike of a struck strike", x.strike(3), 6);
        CHECK.due("seen 1 is struck by 2 and 5", x.sweets(0), ALL);
        CHECK.due("5 is struck", x.strike(5), 7);
        CHECK.due("2 strikes again", x.sweets(0), ALL);
    }

    private static void fromTheText() {
        WaxBowl x = CHECK.told(TWO);
        x.see(1, 1, 45, true);
        x.seat(0, 1);
        x.bread(1, 40);
        x.go(5);
        CHECK.due("nothing done by call", x.sweets(0), 0b11111);
        CHECK.due("nothing changed", x.count(4), 5);
        WaxBowl second = CHECK.told(TWO);
        second.see(3, 1, 42, false);
        // Steps 0 and 2 feed b by 2 and how sweet p is, so it is 49 less twice that.
        CHECK.due("by the first fruit", second.sweets(0), 0b1111110000);
        CHECK.due("the second one feeds a alone", second.sweets(1), ALL);
        WaxBowl cold = CHECK.told(TWO + "cold 50;");
        cold.see(1, 1, 47, true);
        CHECK.due("with draughts as it goes", cold.sweets(0), 0b11111);
        WaxBowl law = CHECK.told("guest a 99 0 0;guest b 99 50 0;fruit p 5 0;law praise sweet * sweet;");
        law.see(1, 1, 26, false);
        CHECK.due("by the law", law.sweets(0), 0b1111000000);
        law.see(1, 1, 2, true);
        CHECK.due("by the law, both", law.sweets(0), 0b0011000000);
        WaxBowl fallen = CHECK.told("guest a 99 0 0;guest b 99 98 0;fruit p 5 0;");
        fallen.see(50, 1, 99, true);
        CHECK.due("who fainted stays as it is", fallen.sweets(0), 0b0000000011);
        WaxBowl last = CHECK.told("guest a 99 0 0;fruit p 5 0;");
        last.see(98, 0, 98, true);
        last.see(99, 0, 99, true);
        last.see(97, 0, 98, false);
        CHECK.due("to the last step", last.sweets(0), ALL);
        last.see(99, 0, 99, false);
        CHECK.due("by none", last.sweets(0), 0);
    }

    private static void imagesLeaveIt() {
        WaxBowl x = CHECK.told(TWO);
        x.see(1, 1, 45, true);
        x.keep();
        x.see(1, 1, 46, false);
        x.go(3);
        x.back();
        CHECK.due("what was seen stays", x.count(10), 2);
        CHECK.due("and is known", x.sweets(0), 0b10000);
    }

    public static void main(String[] args) {
        seeing();
        sweets();
        fromTheText();
        imagesLeaveIt();
        CHECK.end();
    }
}
