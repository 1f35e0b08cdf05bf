/** The edges of promises 19 to 22, 30, 31: who feeds best, duels, how warm it is, who hears whom. */
public final class PeopleEdgeTest {
    private static final Check CHECK = new Check("PeopleEdgeTest");
    private static final int NONE = WaxBowl.NONE;
    private static final int LEAST = Integer.MIN_VALUE;
    private static final int MOST = Integer.MAX_VALUE;
    /** Guests of Busy: on seats 0 .. 4 sit dot (4), cid (2), bob (1), eve (3), who has fainted, and ann (0). */
    private static final int GUESTS = 5;
    private static final String SIX = "guest a 99 0 0;guest b 99 0 0;guest c 99 0 0;guest d 99 0 0;guest e 99 0 0;guest f 99 0 0;";

    private static void bestFedOfWhat() {
        for (int wrong : new int[] {LEAST, -1, 2, MOST}) {
            CHECK.stays("bestFed(" + wrong + ")", x -> x.bestFed(wrong), NONE);
        }
        CHECK.stays("bestFed(0): dot", x -> x.bestFed(0), 4);
        CHECK.stays("bestFed(1): ann and cid by 13", x -> x.bestFed(1), 26);
        CHECK.due("another what, no guests", new WaxBowl().bestFed(2), NONE);
        for (int what = 0; what <= 1; what++) {
            CHECK.due("no guests", CHECK.told("fruit p 1 1;").bestFed(what), -2);
            CHECK.due("no fruits", CHECK.told("guest a 1 1 1;").bestFed(what), -2);
            CHECK.due("neither", new WaxBowl().bestFed(what), -2);
            WaxBowl x = CHECK.told("guest a 99 98 9;guest b 99 98 9;fruit p 9 0;law praise 0;");
            CHECK.due("somebody is there", x.bestFed(what), 0);
            x.go(1);
            CHECK.due("nobody is there", x.bestFed(what), -2);
            x.wake(1);
            CHECK.due("b alone, who feeds nobody", x.bestFed(what), what == 0 ? 1 : 0);
        }
    }

    private static void bestFedTheFirst() {
        CHECK.due("alike, the first", CHECK.told(SIX + "fruit p 0 0;").bestFed(0), 0);
        CHECK.due("alike, nothing", CHECK.told(SIX + "fruit p 0 0;").bestFed(1), 0);
        WaxBowl x = CHECK.told("guest a 99 0 1;guest b 99 50 2;guest c 99 50 2;guest d 99 0 1;fruit p 0 0;");
        CHECK.due("b and c feed 2, as one of two is hungry: the first", x.bestFed(0), 1);
        CHECK.due("2", x.bestFed(1), 2);
        WaxBowl last = CHECK.told("guest a 99 5 1;guest b 99 5 1;guest c 99 5 2;fruit p 0 0;");
        CHECK.due("the last by one more", last.bestFed(0), 2);
        CHECK.due("4", last.bestFed(1), 4);
        WaxBowl cut = CHECK.told("guest a 99 1 9;guest b 99 9 9;guest c 99 1 9;fruit p 9 0;");
        CHECK.due("no more than the hunger: 9 and 1", cut.bestFed(1), 10);
        CHECK.due("a, ahead of c", cut.bestFed(0), 0);
    }

    private static void twoGuests() {
        for (int wrong : new int[] {LEAST, -1, GUESTS, MOST}) {
            CHECK.stays("rests(" + wrong + ", 0)", x -> x.rests(wrong, 0), NONE);
            CHECK.stays("rests(0, " + wrong + ")", x -> x.rests(0, wrong), NONE);
            CHECK.stays("rest(" + wrong + ", 0, 0)", x -> x.rest(wrong, 0, 0), NONE);
            CHECK.stays("rest(0, " + wrong + ", 0)", x -> x.rest(0, wrong, 0), NONE);
            CHECK.stays("rest(0, " + wrong + ", 9)", x -> x.rest(0, wrong, 9), NONE);
        }
        for (int g = 0; g < GUESTS; g++) {
            int alike = g;
            CHECK.stays("rests(" + g + ", " + g + ")", x -> x.rests(alike, alike), NONE);
            CHECK.stays("rest(" + g + ", " + g + ", 0)", x -> x.rest(alike, alike, 0), NONE);
        }
        CHECK.stays("rests(0, 4)", x -> x.rests(0, GUESTS - 1));
        CHECK.stays("rest(4, 0, 0)", x -> x.rest(GUESTS - 1, 0, 0));
        CHECK.stays("rests(3, 0), one fainted", x -> x.rests(3, 0));
        CHECK.due("who fainted, too", Busy.bowl().rests(3, 0) >= 0, true);
        CHECK.due("no guests", new WaxBowl().rests(0, 1), NONE);
        CHECK.due("one guest", CHECK.told("guest a 1 1 1;").rests(0, 1), NONE);
    }

    /** All rests of two guests, two digits each behind a 1: 10110 is 01 and 10. */
    private static int restsOfTwo(String one, String other) {
        WaxBowl x = CHECK.told("guest a " + one + ";guest b " + other + ";");
        int found = x.rests(0, 1);
        int all = 1;
        for (int k = 0; k < found; k++) {
            all = all * 100 + x.rest(0, 1, k);
        }
        CHECK.due("one behind the last", x.rest(0, 1, found), -2);
        CHECK.due("far behind the last", x.rest(0, 1, MOST), -2);
        CHECK.due("k below 0", x.rest(0, 1, -1), NONE);
        CHECK.due("k far below 0", x.rest(0, 1, LEAST), NONE);
        return all;
    }

    private static void restsFromNoneToFour() {
        CHECK.due("none", restsOfTwo("0 50 9", "0 0 0"), 1);
        CHECK.due("one: both praise", restsOfTwo("99 0 9", "99 0 9"), 100);
        CHECK.due("one: both bite", restsOfTwo("0 98 0", "0 98 0"), 111);
        CHECK.due("two", restsOfTwo("60 30 3", "70 40 5"), 10110);
        CHECK.due("three", restsOfTwo("20 25 5", "20 25 5"), 1000110);
        CHECK.due("four", restsOfTwo("19 25 5", "19 25 5"), 100011011);
    }

    /** Both praise: the other one's WIT; who bites alone: HUNGER by 5, cut. The least hunger by which one would rather bite. */
    private static void hungerByFive() {
        CHECK.due("24 by 5 is 4: praise", restsOfTwo("99 24 5", "99 24 5"), 100);
        CHECK.due("25 by 5 is 5: as well, to a", restsOfTwo("99 25 9", "99 25 5"), 10010);
        CHECK.due("29 by 5 is 5: as well, to both", restsOfTwo("99 29 5", "99 29 5"), 1000110);
        CHECK.due("30 by 5 is 6: no more", restsOfTwo("99 30 5", "99 30 5"), 10110);
        CHECK.due("4 by 5 is 0", restsOfTwo("99 4 9", "99 4 0"), restsOfTwo("99 0 9", "99 0 0"));
    }

    /** Both bite: each has 0 less MANNERS by 20, cut; who praises then has its own WIT less 5. */
    private static void mannersByTwenty() {
        CHECK.due("19 by 20 is 0, wit 5: as well", restsOfTwo("19 98 5", "19 98 5"), 1011011);
        CHECK.due("20 by 20 is 1, wit 5: praise", restsOfTwo("20 98 5", "20 98 5"), 10110);
        CHECK.due("20 by 20 is 1, wit 4: as well", restsOfTwo("20 98 4", "20 98 4"), 1011011);
        CHECK.due("39 by 20 is 1, wit 4: as well", restsOfTwo("39 98 4", "39 98 4"), 1011011);
        CHECK.due("40 by 20 is 2, wit 4: praise", restsOfTwo("40 98 4", "40 98 4"), 10110);
        CHECK.due("99 by 20 is 4, wit 0: bite", restsOfTwo("99 98 0", "99 98 0"), 111);
        CHECK.due("99 by 20 is 4, wit 1: as well", restsOfTwo("99 98 1", "99 98 1"), 1011011);
    }

    private static void warmOfOnes() {
        for (int n : new int[] {LEAST, -1, 7, MOST}) {
            CHECK.stays("warm(" + n + ", 0)", x -> x.warm(n, 0), NONE);
            CHECK.stays("warm(" + n + ", 1)", x -> x.warm(n, 1), NONE);
        }
        for (int what : new int[] {LEAST, -1, 2, MOST}) {
            CHECK.stays("warm(1, " + what + ")", x -> x.warm(1, what), NONE);
        }
        CHECK.stays("warm(0, 0)", x -> x.warm(0, 0), 1);
        CHECK.stays("warm(0, 1)", x -> x.warm(0, 1), 1);
        CHECK.stays("warm(6, 0)", x -> x.warm(6, 0), 117649);
        CHECK.stays("warm(6, 1)", x -> x.warm(6, 1), 1000000);
    }

    private static void warmInLeastTerms() {
        int[] colds = {0, 1, 4, 10, 20, 25, 50, 75, 98, 99, 100};
        int[] above = {1, 99, 24, 9, 4, 3, 1, 1, 1, 1, 0};
        int[] below = {1, 100, 25, 10, 5, 4, 2, 4, 50, 100, 1};
        for (int i = 0; i < colds.length; i++) {
            WaxBowl x = CHECK.told("cold " + colds[i] + ";");
            long up = 1;
            long down = 1;
            for (int n = 0; n <= 6; n++) {
                CHECK.due("above, cold " + colds[i] + ", " + n, x.warm(n, 0), up);
                CHECK.due("below, cold " + colds[i] + ", " + n, x.warm(n, 1), down);
                up *= above[i];
                down *= below[i];
            }
        }
    }

    private static void chainOfOnes() {
        for (int wrong : new int[] {LEAST, -1, GUESTS, MOST}) {
            CHECK.stays("chain(" + wrong + ", 0)", x -> x.chain(wrong, 0), NONE);
            CHECK.stays("chain(0, " + wrong + ")", x -> x.chain(0, wrong), NONE);
        }
        for (int g = 0; g < GUESTS; g++) {
            int other = g;
            CHECK.stays("chain(3, " + g + "), she isn't there", x -> x.chain(3, other), NONE);
            CHECK.stays("chain(" + g + ", 3), she isn't there", x -> x.chain(other, 3), NONE);
        }
        CHECK.stays("chain(0, 0): to oneself", x -> x.chain(0, 0), 0);
        CHECK.stays("chain(4, 4): to oneself", x -> x.chain(4, 4), 0);
        CHECK.stays("chain(0, 4): it hears it", x -> x.chain(0, 4), 1);
        CHECK.stays("chain(0, 1): over dot and cid, not over eve", x -> x.chain(0, 1), 3);
        CHECK.due("no guests", new WaxBowl().chain(0, 0), NONE);
    }

    private static void chainRoundTheTable() {
        int[] far = {0, 1, 2, 3, 2, 1};
        WaxBowl x = CHECK.told(SIX);
        for (int one = 0; one < 6; one++) {
            for (int g = 0; g < 6; g++) {
                CHECK.due("the shorter way from " + one + " to " + g, x.chain(one, g), far[Math.abs(one - g)]);
            }
        }
        String oneGone = SIX.replace("guest b 99 0", "guest b 99 98");
        WaxBowl longer = CHECK.told(oneGone);
        longer.go(1);
        CHECK.due("the longest way: over four", longer.chain(0, 2), 4);
        WaxBowl cut = CHECK.told(oneGone.replace("guest f 99 0", "guest f 99 98"));
        cut.go(1);
        for (int g = 2; g <= 4; g++) {
            CHECK.due("it doesn't come to " + g, cut.chain(0, g), -2);
            CHECK.due("nor from " + g, cut.chain(g, 0), -2);
        }
        CHECK.due("to oneself it does", cut.chain(0, 0), 0);
        CHECK.due("near 2 it comes over who fainted", nearTwo(oneGone).chain(0, 2), 1);
        CHECK.due("near 5", CHECK.told(SIX + "near 5;").chain(0, 3), 1);
        CHECK.due("two guests", CHECK.told(SIX.substring(0, 30)).chain(0, 1), 1);
    }

    private static WaxBowl nearTwo(String guests) {
        WaxBowl x = CHECK.told(guests + "near 2;");
        x.go(1);
        return x;
    }

    private static void partOfOnes() {
        for (int wrong : new int[] {LEAST, -1, GUESTS, MOST}) {
            CHECK.stays("part(" + wrong + ", 0)", x -> x.part(wrong, 0), NONE);
            CHECK.stays("part(0, " + wrong + ")", x -> x.part(0, wrong), NONE);
        }
        for (int g = 0; g < GUESTS; g++) {
            int other = g;
            CHECK.stays("part(3, " + g + "), she isn't there", x -> x.part(3, other), NONE);
            CHECK.stays("part(" + g + ", 3), she isn't there", x -> x.part(other, 3), NONE);
            CHECK.stays("part(" + g + ", " + g + "), alike", x -> x.part(other, other), NONE);
        }
        CHECK.stays("part(0, 4): by none, as it hears it", x -> x.part(0, 4), -2);
        CHECK.stays("part(0, 2): without dot", x -> x.part(0, 2), 0b10000);
        CHECK.stays("part(0, 1): without cid or dot, the least", x -> x.part(0, 1), 0b00100);
        CHECK.due("no guests", new WaxBowl().part(0, 1), NONE);
    }

    private static void partFromNoneToAll() {
        WaxBowl x = CHECK.told(SIX);
        CHECK.due("one on each side, the least: b and e", x.part(0, 3), 0b010010);
        CHECK.due("near 2: all others", CHECK.told(SIX + "near 2;").part(0, 3), 0b110110);
        CHECK.due("near 3: by none", CHECK.told(SIX + "near 3;").part(0, 3), -2);
        CHECK.due("neighbours: by none", x.part(0, 5), -2);
        CHECK.due("two guests: by none", CHECK.told(SIX.substring(0, 30)).part(0, 1), -2);
        WaxBowl cut = CHECK.told(SIX.replace("guest b 99 0", "guest b 99 98").replace("guest f 99 0", "guest f 99 98"));
        cut.go(1);
        CHECK.due("nothing comes anyway: without nobody", cut.part(0, 3), 0);
        CHECK.due("one is enough", cut.part(2, 4), 0b001000);
    }

    public static void main(String[] args) {
        CHECK.test("19: -2: nobody is THERE, there are no FRUITS; NONE for another what", PeopleEdgeTest::bestFedOfWhat);
        CHECK.test("19: BEST FED, the first of several", PeopleEdgeTest::bestFedTheFirst);
        CHECK.test("20, 21: NONE: no such GUESTS, alike", PeopleEdgeTest::twoGuests);
        CHECK.test("20, 21: 0 .. 4 RESTS; -2: there are no so many; NONE: k is below 0", PeopleEdgeTest::restsFromNoneToFour);
        CHECK.test("20: HUNGER by 5, cut", PeopleEdgeTest::hungerByFive);
        CHECK.test("20: 0 less MANNERS by 20, cut", PeopleEdgeTest::mannersByTwenty);
        CHECK.test("22: WARM n 0 .. 6, what 0, 1; NONE: no such ones", PeopleEdgeTest::warmOfOnes);
        CHECK.test("22: in least terms", PeopleEdgeTest::warmInLeastTerms);
        CHECK.test("30: (0 to oneself); NONE: no such GUESTS, one isn't THERE", PeopleEdgeTest::chainOfOnes);
        CHECK.test("30: fewest (1: it HEARS it); -2: it doesn't come there", PeopleEdgeTest::chainRoundTheTable);
        CHECK.test("31: NONE: no such GUESTS, alike, one isn't THERE", PeopleEdgeTest::partOfOnes);
        CHECK.test("31: the fewest, of several the least; -2: by none", PeopleEdgeTest::partFromNoneToAll);
        CHECK.end();
    }
}
