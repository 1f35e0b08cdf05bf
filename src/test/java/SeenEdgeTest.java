/** The edges of promises 35 to 38: 24 seen, strikes, known by how many, how sweet a fruit is by it. */
public final class SeenEdgeTest {
    private static final Check CHECK = new Check("SeenEdgeTest");
    private static final int NONE = WaxBowl.NONE;
    private static final int LEAST = Integer.MIN_VALUE;
    private static final int MOST = Integer.MAX_VALUE;
    private static final int ALL = 0b1111111111;
    /** Of Busy, which has seen three and is known by two. */
    private static final int GUESTS = 5;
    private static final int FRUITS = 3;
    private static final int SEEN = 3;

    /** Behind one step the hunger of b is 51 less how sweet p is; it doesn't hang on q. */
    private static final String TWO = "guest a 99 0 0;guest b 99 50 0;fruit p 5 0;fruit q 0 0;";

    private static void seeOfOnes() {
        for (int steps : new int[] {LEAST, -1, 0, 100, MOST}) {
            CHECK.stays("see(" + steps + ", 0, 5, true)", x -> x.see(steps, 0, 5, true), NONE);
            CHECK.stays("see(" + steps + ", 0, 5, false)", x -> x.see(steps, 0, 5, false), NONE);
        }
        for (int guest : new int[] {LEAST, -1, GUESTS, MOST}) {
            CHECK.stays("see(1, " + guest + ", 5, true)", x -> x.see(1, guest, 5, true), NONE);
        }
        for (int hunger : new int[] {LEAST, -1, 100, MOST}) {
            CHECK.stays("see(1, 0, " + hunger + ", true)", x -> x.see(1, 0, hunger, true), NONE);
            CHECK.stays("see(1, 0, " + hunger + ", false)", x -> x.see(1, 0, hunger, false), NONE);
        }
        CHECK.due("no guests", new WaxBowl().see(1, 0, 0, true), NONE);
        WaxBowl x = Busy.bowl();
        CHECK.due("see(1, 0, 0, true)", x.see(1, 0, 0, true), SEEN);
        CHECK.due("see(99, 4, 99, false)", x.see(99, GUESTS - 1, 99, false), SEEN + 1);
        CHECK.due("of who fainted", x.see(99, 3, 99, true), SEEN + 2);
        CHECK.due("so many", x.count(10), SEEN + 3);
        CHECK.due("known by as many as before", x.count(11), 2);
        CHECK.due("what can be undone stays", x.count(12), 4);
    }

    private static void twentyFourSeen() {
        WaxBowl x = CHECK.told(TWO);
        for (int i = 0; i < 23; i++) {
            CHECK.due("see", x.see(1, 1, 45, true), i);
        }
        CHECK.due("the last one is the 24th", x.see(1, 1, 46, false), 23);
        CHECK.due("no 25th", x.see(1, 1, 46, true), NONE);
        CHECK.due("no 25th strike", x.strike(0), NONE);
        CHECK.due("no strike of the last", x.strike(23), NONE);
        CHECK.due("24", x.count(10), 24);
        CHECK.due("known by 24", x.count(11), 24);
        CHECK.due("by the first 23 it is 6 at most, by the last one more than 5", x.sweets(0), 0b0001000000);
        CHECK.due("known by 23", x.known(23), true);
        CHECK.due("without the last one", x.sweets(0), 0b0001111111);
        CHECK.due("known by 24", x.known(24), true);
        CHECK.due("with it", x.sweets(0), 0b0001000000);
        CHECK.due("not by 25", x.known(25), false);
        CHECK.due("a new text", Check.tell(x, TWO), 4);
        CHECK.due("none seen", x.count(10), 0);
        CHECK.due("the first again", x.see(1, 1, 45, true), 0);
    }

    private static void strikeToTheTwentyFourth() {
        WaxBowl x = CHECK.told(TWO);
        CHECK.due("see", x.see(1, 1, 46, false), 0);
        for (int i = 1; i < 24; i++) {
            CHECK.due("a strike of the one before", x.strike(i - 1), i);
        }
        CHECK.due("no 25th", x.strike(23), NONE);
        CHECK.due("no 25th to see", x.see(1, 1, 46, false), NONE);
        CHECK.due("24", x.count(10), 24);
        for (int n = 0; n <= 24; n++) {
            CHECK.due("known by " + n, x.known(n), true);
            // Of a row of strikes every second one counts, from the last one on: the first strike does with an even n.
            CHECK.due("sweets known by " + n, x.sweets(0), n > 0 && n % 2 == 1 ? 0b1111000000 : ALL);
        }
    }

    private static void strikeOfOnes() {
        for (int seen : new int[] {LEAST, -1, SEEN, SEEN + 1, 23, 24, MOST}) {
            CHECK.stays("strike(" + seen + ")", x -> x.strike(seen), NONE);
        }
        CHECK.due("strike(0)", Busy.bowl().strike(0), SEEN);
        CHECK.due("strike(2)", Busy.bowl().strike(SEEN - 1), SEEN);
        CHECK.due("none seen", CHECK.told(TWO).strike(0), NONE);
        CHECK.due("no text", new WaxBowl().strike(0), NONE);
        WaxBowl x = CHECK.told(TWO);
        x.see(1, 1, 46, false);
        x.known(0);
        CHECK.due("one that isn't known can be struck", x.strike(0), 1);
        CHECK.due("twice", x.strike(0), 2);
    }

    private static void knownByN() {
        for (int n : new int[] {LEAST, -3, -2, SEEN + 1, 24, 25, MOST}) {
            CHECK.stays("known(" + n + ")", x -> x.known(n) ? 1 : 0, 0);
        }
        CHECK.stays("known(2), as it is", x -> x.known(2) ? 1 : 0, 1);
        WaxBowl x = Busy.bowl();
        CHECK.due("known(3)", x.known(SEEN), true);
        CHECK.due("by 3", x.count(11), 3);
        CHECK.due("known(0)", x.known(0), true);
        CHECK.due("by 0", x.count(11), 0);
        CHECK.due("nothing is known", x.sweets(0), ALL);
        CHECK.due("known(-1)", x.known(-1), true);
        CHECK.due("by all", x.count(11), 3);
        WaxBowl none = CHECK.told(TWO);
        CHECK.due("none seen: known(0)", none.known(0), true);
        CHECK.due("none seen: known(1)", none.known(1), false);
        CHECK.due("none seen: known(-1)", none.known(-1), true);
        CHECK.due("no text: known(0)", new WaxBowl().known(0), true);
        CHECK.due("no text: known(1)", new WaxBowl().known(1), false);
    }

    private static void knownByThoseToCome() {
        WaxBowl x = CHECK.told(TWO);
        CHECK.due("known(0)", x.known(0), true);
        x.see(1, 1, 46, false);
        CHECK.due("by 0 still", x.count(11), 0);
        CHECK.due("it doesn't count", x.sweets(0), ALL);
        CHECK.due("known(-1)", x.known(-1), true);
        CHECK.due("it counts", x.sweets(0), 0b1111000000);
        x.see(1, 1, 44, true);
        CHECK.due("those to come, too", x.sweets(0), 0b0011000000);
        CHECK.due("by 2", x.count(11), 2);
        CHECK.due("known(2)", x.known(2), true);
        x.strike(0);
        CHECK.due("a strike that isn't known", x.sweets(0), 0b0011000000);
        CHECK.due("a wrong one changes nothing", x.known(4), false);
        CHECK.due("by 2 still", x.count(11), 2);
    }

    private static void seenAtLeastOrLess() {
        for (int hunger = 41; hunger <= 53; hunger++) {
            WaxBowl more = CHECK.told(TWO);
            more.see(1, 1, hunger, true);
            WaxBowl less = CHECK.told(TWO);
            less.see(1, 1, hunger, false);
            int bits = 0;
            for (int sweet = 0; sweet <= 9; sweet++) {
                bits |= 51 - sweet >= hunger ? 1 << sweet : 0;
            }
            CHECK.due(hunger + " at least", more.sweets(0), bits);
            CHECK.due("less than " + hunger, less.sweets(0), ALL & ~bits);
            CHECK.due("the other fruit has no say: at least", more.sweets(1), 46 >= hunger ? ALL : 0);
            CHECK.due("the other fruit has no say: less", less.sweets(1), 46 < hunger ? ALL : 0);
        }
    }

    private static void seenHungerAtItsBounds() {
        WaxBowl x = CHECK.told("guest a 99 98 0;guest b 99 0 0;fruit p 0 0;cold 50;");
        x.see(1, 0, 0, true);
        CHECK.due("0 at least is always so", x.sweets(0), ALL);
        x.see(99, 0, 99, true);
        CHECK.due("99 at least of who fainted with 101", x.sweets(0), ALL);
        x.see(1, 1, 0, false);
        CHECK.due("less than 0 is never so", x.sweets(0), 0);
        CHECK.due("struck", x.strike(2), 3);
        CHECK.due("it was", x.sweets(0), ALL);
        x.see(1, 0, 99, false);
        CHECK.due("less than 99 isn't so", x.sweets(0), 0);
    }

    private static void seenStepsAtTheirBounds() {
        WaxBowl x = CHECK.told("guest a 99 0 0;fruit p 0 0;");
        x.see(1, 0, 1, true);
        x.see(1, 0, 2, false);
        x.see(98, 0, 98, true);
        x.see(98, 0, 99, false);
        x.see(99, 0, 99, true);
        CHECK.due("behind 1, 98, 99 steps", x.sweets(0), ALL);
        x.see(99, 0, 99, false);
        CHECK.due("behind 99 it isn't less than 99", x.sweets(0), 0);
        WaxBowl first = CHECK.told("guest a 99 0 0;fruit p 0 0;");
        first.see(1, 0, 2, true);
        CHECK.due("behind one step it isn't 2", first.sweets(0), 0);
    }

    private static void sweetsOfFruit() {
        for (int fruit : new int[] {LEAST, -1, FRUITS, MOST}) {
            CHECK.stays("sweets(" + fruit + ")", x -> x.sweets(fruit), NONE);
        }
        CHECK.stays("sweets(0)", x -> x.sweets(0), 0b0000001111);
        CHECK.stays("sweets(2)", x -> x.sweets(FRUITS - 1), 0);
        CHECK.due("no fruits", CHECK.told("guest a 1 1 1;").sweets(0), NONE);
        CHECK.due("no text", new WaxBowl().sweets(0), NONE);
        CHECK.due("nothing seen", CHECK.told(TWO).sweets(0), ALL);
        CHECK.due("no guests, nothing seen", CHECK.told("fruit p 1 1;").sweets(0), ALL);
    }

    private static void seenFromTheTextOn() {
        WaxBowl x = CHECK.told(TWO);
        x.bread(1, 40);
        x.seat(0, 1);
        x.go(200);
        x.wake(0);
        CHECK.due("behind 200 steps", x.see(1, 1, 46, false), 0);
        CHECK.due("as it goes from the text on", x.sweets(0), 0b1111000000);
        CHECK.due("its own is as it was", x.fruit(0, 0), 5);
        CHECK.due("keep", x.keep(), 200);
        CHECK.due("struck", x.strike(0), 1);
        CHECK.due("back", x.back(), 200);
        CHECK.due("what was seen stays", x.count(10), 2);
        CHECK.due("what was struck stays struck", x.sweets(0), ALL);
    }

    public static void main(String[] args) {
        CHECK.test("35: STEPS 1 .. 99, HUNGER 0 .. 99; NONE: no such ones", SeenEdgeTest::seeOfOnes);
        CHECK.test("35: SEEN, at most 24, numbered from 0 on", SeenEdgeTest::twentyFourSeen);
        CHECK.test("36: NONE: there are 24", SeenEdgeTest::strikeToTheTwentyFourth);
        CHECK.test("36: NONE: no such one SEEN", SeenEdgeTest::strikeOfOnes);
        CHECK.test("37: false: no such n", SeenEdgeTest::knownByN);
        CHECK.test("37: -1: by all, also those to come", SeenEdgeTest::knownByThoseToCome);
        CHECK.test("38: HUNGER was so much at least, or less", SeenEdgeTest::seenAtLeastOrLess);
        CHECK.test("38: HUNGER at 0 and 99", SeenEdgeTest::seenHungerAtItsBounds);
        CHECK.test("38: behind 1 and 99 STEPS", SeenEdgeTest::seenStepsAtTheirBounds);
        CHECK.test("38: 0 .. 9 (bits); NONE: no such FRUIT", SeenEdgeTest::sweetsOfFruit);
        CHECK.test("38: from the TEXT on, nothing done by call", SeenEdgeTest::seenFromTheTextOn);
        CHECK.end();
    }
}
