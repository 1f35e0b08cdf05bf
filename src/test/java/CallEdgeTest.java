/** The edges of promises 6 to 12, 23 to 27, 32, 34, 44: what is now, and what is done by call. */
public final class CallEdgeTest {
    private static final Check CHECK = new Check("CallEdgeTest");
    private static final int NONE = WaxBowl.NONE;
    private static final int LEAST = Integer.MIN_VALUE;
    private static final int MOST = Integer.MAX_VALUE;
    /** Five guests, of whom cid (2) was woken and eve (3) has fainted; three fruits: see Busy. */
    private static final int GUESTS = 5;
    private static final int FRUITS = 3;
    private static final String SIX = "guest a 99 0 0;guest b 99 0 0;guest c 99 0 0;guest d 99 0 0;guest e 99 0 0;guest f 99 0 0;";

    private static void guestOfNumber() {
        int[] wrong = {LEAST, -1, GUESTS, GUESTS + 1, MOST};
        for (int g : wrong) {
            CHECK.stays("guest(" + g + ", 0) throws", x -> Check.thrownByGuest(x, g, 0), 1);
            CHECK.stays("guest(" + g + ", 6) throws", x -> Check.thrownByGuest(x, g, 6), 1);
            CHECK.stays("guest(" + g + ", 7) throws", x -> Check.thrownByGuest(x, g, 7), 1);
        }
        CHECK.stays("guest(0, 2)", x -> x.guest(0, 2), 3);
        CHECK.stays("guest(4, 2)", x -> x.guest(GUESTS - 1, 2), 9);
        CHECK.due("without guests", Check.thrownByGuest(new WaxBowl(), 0, 0), 1);
        CHECK.due("without guests, no such what", Check.thrownByGuest(new WaxBowl(), 0, 7), 1);
        WaxBowl six = CHECK.told(SIX);
        CHECK.due("the sixth", six.guest(5, 0), 99);
        CHECK.due("no seventh", Check.thrownByGuest(six, 6, 0), 1);
    }

    private static void guestOfWhat() {
        for (int what : new int[] {LEAST, -1, 7, 8, MOST}) {
            CHECK.stays("guest(0, " + what + ") throws", x -> Check.thrownByGuest(x, 0, what), 2);
            CHECK.stays("guest(4, " + what + ") throws", x -> Check.thrownByGuest(x, GUESTS - 1, what), 2);
        }
        for (int what = 0; what <= 6; what++) {
            int asked = what;
            CHECK.stays("guest(0, " + what + ") answers", x -> Check.thrownByGuest(x, 0, asked), 0);
        }
    }

    private static void fruitOfNumberAndWhat() {
        for (int f : new int[] {LEAST, -1, FRUITS, FRUITS + 1, MOST}) {
            CHECK.stays("fruit(" + f + ", 0)", x -> x.fruit(f, 0), NONE);
            CHECK.stays("fruit(" + f + ", 4)", x -> x.fruit(f, 4), NONE);
        }
        for (int what : new int[] {LEAST, -1, 5, MOST}) {
            CHECK.stays("fruit(0, " + what + ")", x -> x.fruit(0, what), NONE);
            CHECK.stays("fruit(2, " + what + ")", x -> x.fruit(2, what), NONE);
        }
        CHECK.stays("fruit(0, 0)", x -> x.fruit(0, 0), 4);
        CHECK.stays("fruit(2, 0)", x -> x.fruit(2, 0), 6);
        CHECK.stays("fruit(1, 1)", x -> x.fruit(1, 1), 1);
        CHECK.stays("fruit(1, 2)", x -> x.fruit(1, 2), 1);
        CHECK.stays("fruit(1, 3)", x -> x.fruit(1, 3), 1);
        CHECK.due("without fruits", new WaxBowl().fruit(0, 0), NONE);
        WaxBowl eight = CHECK.told("fruit a 0 0;fruit b 0 0;fruit c 0 0;fruit d 0 0;fruit e 0 0;fruit f 0 0;fruit g 0 0;fruit h 9 1;");
        CHECK.due("the eighth", eight.fruit(7, 0), 9);
        CHECK.due("no ninth", eight.fruit(8, 0), NONE);
    }

    private static void lawOfOnes() {
        for (int wrong : new int[] {LEAST, -1, 3, MOST}) {
            CHECK.stays("law(" + wrong + ", 0, 0)", x -> x.law(wrong, 0, 0), Long.MIN_VALUE);
        }
        for (int wrong : new int[] {LEAST, -1, GUESTS, MOST}) {
            CHECK.stays("law(0, " + wrong + ", 0)", x -> x.law(0, wrong, 0), Long.MIN_VALUE);
        }
        for (int wrong : new int[] {LEAST, -1, FRUITS, MOST}) {
            CHECK.stays("law(0, 0, " + wrong + ")", x -> x.law(0, 0, wrong), Long.MIN_VALUE);
        }
        CHECK.stays("law(0, 0, 0)", x -> x.law(0, 0, 0), 7);
        CHECK.stays("law(0, 4, 2)", x -> x.law(0, 4, 2), 15);
        CHECK.stays("law(1, 3, 2), of who fainted", x -> x.law(1, 3, 2), 1);
        CHECK.stays("law(2, 0, 1), marks as they are", x -> x.law(2, 0, 1), 5);
        CHECK.due("without guests", CHECK.told("fruit p 1 1;law dare 1;").law(1, 0, 0), Long.MIN_VALUE);
        CHECK.due("without fruits", CHECK.told("guest a 1 1 1;law dare 1;").law(1, 0, 0), Long.MIN_VALUE);
    }

    private static void lawThatIsNotTold() {
        String two = "guest a 1 1 1;fruit p 1 1;";
        String[] laws = {"praise", "dare", "shock"};
        for (int told = 0; told < 3; told++) {
            WaxBowl x = CHECK.told(two + "law " + laws[told] + " 5;");
            for (int what = 0; what < 3; what++) {
                CHECK.due("law " + what + " of " + laws[told], x.law(what, 0, 0), what == told ? 5 : Long.MIN_VALUE);
            }
        }
        CHECK.due("an error", CHECK.told(two + "law dare 1/0;").law(1, 0, 0), Long.MIN_VALUE);
        CHECK.due("0 is none", CHECK.told(two + "law dare 0;").law(1, 0, 0), 0);
        CHECK.due("below 0 it isn't cut", CHECK.told(two + "law shock 0-5;").law(2, 0, 0), -5);
        CHECK.due("above 99 it isn't cut", CHECK.told(two + "law praise 100;").law(0, 0, 0), 100);
    }

    private static void seatOfTwo() {
        for (int wrong : new int[] {LEAST, -1, GUESTS, MOST}) {
            CHECK.stays("seat(" + wrong + ", 0)", x -> x.seat(wrong, 0) ? 1 : 0, 0);
            CHECK.stays("seat(0, " + wrong + ")", x -> x.seat(0, wrong) ? 1 : 0, 0);
            CHECK.stays("seat(" + wrong + ", " + wrong + ")", x -> x.seat(wrong, wrong) ? 1 : 0, 0);
        }
        for (int g = 0; g < GUESTS; g++) {
            int alike = g;
            CHECK.stays("seat(" + g + ", " + g + ")", x -> x.seat(alike, alike) ? 1 : 0, 0);
        }
        CHECK.due("without guests", new WaxBowl().seat(0, 1), false);
        CHECK.due("one guest", CHECK.told("guest a 1 1 1;").seat(0, 1), false);
        WaxBowl x = CHECK.told(SIX);
        CHECK.due("first and last", x.seat(0, 5), true);
        CHECK.due("seat of the first", x.guest(0, 3), 5);
        CHECK.due("seat of the last", x.guest(5, 3), 0);
        CHECK.due("the others stay", x.guest(1, 3), 1);
        CHECK.due("back by the same call", x.seat(5, 0), true);
        CHECK.due("seat of the first", x.guest(0, 3), 0);
        CHECK.due("both can be undone", x.count(12), 2);
    }

    private static void seatOfWhoFainted() {
        WaxBowl x = Busy.bowl();
        CHECK.due("eve fainted", x.guest(3, 4), 0);
        int seat = x.guest(3, 3);
        int other = x.guest(1, 3);
        CHECK.due("seat(3, 1)", x.seat(3, 1), true);
        CHECK.due("her seat", x.guest(3, 3), other);
        CHECK.due("his seat", x.guest(1, 3), seat);
        CHECK.due("she isn't there still", x.guest(3, 4), 0);
        WaxBowl both = CHECK.told("guest a 99 98 0;guest b 99 98 0;");
        both.go(1);
        CHECK.due("both fainted", both.seat(0, 1), true);
        CHECK.due("seat", both.guest(0, 3), 1);
    }

    private static void breadOneToNinetyNine() {
        for (int much : new int[] {LEAST, -1, 0, 100, MOST}) {
            CHECK.stays("bread(0, " + much + ")", x -> x.bread(0, much), NONE);
        }
        WaxBowl x = CHECK.told("guest a 99 98 0;guest b 99 50 0;");
        CHECK.due("bread(0, 1)", x.bread(0, 1), 97);
        CHECK.due("bread(0, 96)", x.bread(0, 96), 1);
        CHECK.due("bread(0, 1)", x.bread(0, 1), 0);
        CHECK.due("0 at least", x.bread(0, 1), 0);
        CHECK.due("bread(1, 99)", x.bread(1, 99), 0);
        CHECK.due("hunger then", x.guest(1, 1), 0);
        CHECK.due("all can be undone", x.count(12), 5);
        CHECK.due("99 of 98", CHECK.told("guest a 99 98 0;").bread(0, 99), 0);
        CHECK.due("98 of 98", CHECK.told("guest a 99 98 0;").bread(0, 98), 0);
        CHECK.due("97 of 98", CHECK.told("guest a 99 98 0;").bread(0, 97), 1);
    }

    private static void breadOfOnes() {
        for (int wrong : new int[] {LEAST, -1, GUESTS, MOST}) {
            CHECK.stays("bread(" + wrong + ", 5)", x -> x.bread(wrong, 5), NONE);
        }
        CHECK.stays("bread(3, 5), eve isn't there", x -> x.bread(3, 5), NONE);
        CHECK.due("without guests", new WaxBowl().bread(0, 5), NONE);
        WaxBowl x = CHECK.told(SIX);
        CHECK.due("the last", x.bread(5, 5), 0);
        CHECK.due("woken she is fed", wokenEve().bread(3, 5), 45);
    }

    private static WaxBowl wokenEve() {
        WaxBowl x = Busy.bowl();
        CHECK.due("wake(3)", x.wake(3), true);
        return x;
    }

    private static void wakeOfOnes() {
        for (int wrong : new int[] {LEAST, -1, GUESTS, MOST}) {
            CHECK.stays("wake(" + wrong + ")", x -> x.wake(wrong) ? 1 : 0, 0);
        }
        for (int there : new int[] {0, 1, 2, 4}) {
            CHECK.stays("wake(" + there + "), it is there", x -> x.wake(there) ? 1 : 0, 0);
        }
        CHECK.due("without guests", new WaxBowl().wake(0), false);
        WaxBowl x = wokenEve();
        CHECK.due("there", x.guest(3, 4), 1);
        CHECK.due("hunger 50", x.guest(3, 1), 50);
        CHECK.due("manners stay", x.guest(3, 0), 5);
        CHECK.due("to undo", x.count(12), 5);
        CHECK.due("once", x.wake(3), false);
        CHECK.due("still so many to undo", x.count(12), 5);
        WaxBowl hungry = CHECK.told("guest a 99 98 0;cold 100;");
        hungry.go(1);
        CHECK.due("hunger 101", hungry.guest(0, 1), 101);
        CHECK.due("woken", hungry.wake(0), true);
        CHECK.due("hunger 50", hungry.guest(0, 1), 50);
        hungry.go(16);
        CHECK.due("it can faint again, not yet", hungry.guest(0, 4), 1);
        hungry.go(1);
        CHECK.due("it fainted again", hungry.guest(0, 4), 0);
    }

    private static void goSoMany() {
        for (int n : new int[] {LEAST, -1, 201, 9000, MOST}) {
            CHECK.stays("go(" + n + ")", x -> x.go(n), NONE);
        }
        CHECK.stays("go(0)", x -> x.go(0), 6);
        WaxBowl x = CHECK.told("guest a 99 0 9;guest b 99 0 9;fruit p 9 0;");
        CHECK.due("go(0)", x.go(0), 0);
        CHECK.due("go(1)", x.go(1), 1);
        CHECK.due("go(200)", x.go(200), 201);
        CHECK.due("a was fed in step 199", x.guest(0, 1), 2);
        CHECK.due("b was fed in step 200", x.guest(1, 1), 1);
    }

    private static void goToNineThousand() {
        WaxBowl x = CHECK.told("guest a 99 0 9;guest b 99 0 9;fruit p 9 0;cold 30;");
        for (int i = 1; i < 45; i++) {
            CHECK.due("go(200)", x.go(200), 200 * i);
        }
        CHECK.due("to 8999", x.go(199), 8999);
        int hunger = x.guest(0, 1);
        x.seat(0, 1);
        CHECK.due("two too many", x.go(2), NONE);
        CHECK.due("200 too many", x.go(200), NONE);
        CHECK.due("none does", x.count(4), 8999);
        CHECK.due("hunger as it was", x.guest(0, 1), hunger);
        CHECK.due("what can be undone stays", x.count(12), 1);
        CHECK.due("to 9000", x.go(1), 9000);
        CHECK.due("one too many", x.go(1), NONE);
        CHECK.due("no step", x.go(0), 9000);
        CHECK.due("9000", x.count(4), 9000);
        CHECK.due("the bowl", x.guest(x.bowl(), 3), 0);
        CHECK.due("ahead goes farther", x.ahead(200, 4, 0) > 0, true);
        CHECK.due("an image of it", x.keep(), 9000);
        WaxBowl one = new WaxBowl();
        for (int i = 0; i < 45; i++) {
            one.go(200);
        }
        CHECK.due("at once to 9000", one.count(4), 9000);
    }

    private static void bowlRoundTheTable() {
        WaxBowl x = CHECK.told("guest a 99 98 0;guest b 99 0 0;guest c 99 0 0;");
        CHECK.due("a", x.bowl(), 0);
        x.go(1);
        CHECK.due("b", x.bowl(), 1);
        x.go(1);
        CHECK.due("c, the last seat", x.bowl(), 2);
        x.go(1);
        CHECK.due("round to a's, which is empty", x.bowl(), -2);
        x.seat(0, 2);
        CHECK.due("c sits there now", x.bowl(), 2);
        x.undo();
        x.wake(0);
        CHECK.due("a is there again", x.bowl(), 0);
        CHECK.due("no guests", new WaxBowl().bowl(), -2);
        CHECK.due("no guests, but fruits", CHECK.told("fruit p 1 1;").bowl(), -2);
        CHECK.due("no fruits, but guests", CHECK.told("guest a 1 1 1;").bowl(), 0);
        CHECK.stays("bowl()", y -> y.bowl(), 2);
    }

    private static void uppermostFruit() {
        WaxBowl x = CHECK.told("fruit p 0 0;fruit q 0 0;fruit r 0 0;");
        int[] due = {0, 1, 2, 0};
        for (int fruit : due) {
            CHECK.due("uppermost", x.uppermost(), fruit);
            x.go(1);
        }
        CHECK.due("there are none", CHECK.told("guest a 1 1 1;").uppermost(), -2);
        CHECK.due("there are none", new WaxBowl().uppermost(), -2);
        CHECK.stays("uppermost()", y -> y.uppermost(), 0);
    }

    private static void hungriestOfSeveral() {
        CHECK.due("the first of several", CHECK.told("guest a 9 5 0;guest b 9 6 0;guest c 9 6 0;").hungriest(), 1);
        CHECK.due("all alike", CHECK.told("guest a 9 0 0;guest b 9 0 0;").hungriest(), 0);
        CHECK.due("the last", CHECK.told("guest a 9 5 0;guest b 9 5 0;guest c 9 6 0;").hungriest(), 2);
        WaxBowl x = CHECK.told("guest a 9 98 0;guest b 9 7 0;guest c 9 6 0;");
        CHECK.due("a", x.hungriest(), 0);
        x.go(1);
        CHECK.due("of those there", x.hungriest(), 1);
        x.go(200);
        CHECK.due("nobody is", x.hungriest(), -2);
        CHECK.due("no guests", new WaxBowl().hungriest(), -2);
        CHECK.stays("hungriest()", y -> y.hungriest(), 2);
    }

    private static void rudestOfSeveral() {
        CHECK.due("the first of several", CHECK.told("guest a 9 5 0;guest b 8 6 0;guest c 8 6 0;").rudest(), 1);
        CHECK.due("all alike", CHECK.told("guest a 99 0 0;guest b 99 0 0;").rudest(), 0);
        CHECK.due("0 is least", CHECK.told("guest a 1 5 0;guest b 1 5 0;guest c 0 6 0;").rudest(), 2);
        WaxBowl x = CHECK.told("guest a 0 98 0;guest b 9 7 0;guest c 8 6 0;");
        CHECK.due("a", x.rudest(), 0);
        x.go(1);
        CHECK.due("of those there", x.rudest(), 2);
        x.go(200);
        CHECK.due("nobody is", x.rudest(), -2);
        CHECK.due("no guests", new WaxBowl().rudest(), -2);
        CHECK.stays("rudest()", y -> y.rudest(), 1);
    }

    private static void markedAndUntouched() {
        CHECK.due("none marked without fruits", new WaxBowl().marked(), 0);
        CHECK.due("none untouched without fruits", new WaxBowl().untouched(), 0);
        String eight = "fruit a 0 0;fruit b 0 1;fruit c 0 0;fruit d 0 1;fruit e 0 0;fruit f 0 0;fruit g 0 0;fruit h 0 1;";
        WaxBowl x = CHECK.told("guest a 99 0 9;guest b 99 0 9;" + eight + "bite a 0;bite b 7;bite b 9;");
        CHECK.due("none marked", x.marked(), 0);
        CHECK.due("all untouched", x.untouched(), 0b11111111);
        x.go(1);
        CHECK.due("the first", x.marked(), 0b00000001);
        CHECK.due("wax with a mark isn't untouched", x.untouched(), 0b11111110);
        x.go(7);
        CHECK.due("the last, too", x.marked(), 0b10000001);
        CHECK.due("eaten", x.fruit(7, 2), 1);
        CHECK.due("untouched", x.untouched(), 0b01111110);
        x.go(2);
        CHECK.due("the second one in the next round", x.marked(), 0b10000011);
        CHECK.stays("marked()", y -> y.marked(), 0b010);
        CHECK.stays("untouched()", y -> y.untouched(), 0b101);
    }

    private static void apartRoundTheTable() {
        for (int wrong : new int[] {LEAST, -1, GUESTS, MOST}) {
            CHECK.stays("apart(" + wrong + ", 0)", x -> x.apart(wrong, 0), NONE);
            CHECK.stays("apart(0, " + wrong + ")", x -> x.apart(0, wrong), NONE);
        }
        CHECK.stays("apart(3, 3)", x -> x.apart(3, 3), 0);
        CHECK.due("no guests", new WaxBowl().apart(0, 0), NONE);
        int[][] far = {{0}, {0, 1}, {0, 1, 1}, {0, 1, 2, 1}, {0, 1, 2, 2, 1}, {0, 1, 2, 3, 2, 1}};
        for (int n = 1; n <= 6; n++) {
            WaxBowl x = CHECK.told(SIX.substring(0, 15 * n));
            for (int one = 0; one < n; one++) {
                for (int other = 0; other < n; other++) {
                    CHECK.due("apart(" + one + ", " + other + ") of " + n, x.apart(one, other), far[n - 1][Math.abs(one - other)]);
                }
            }
        }
        WaxBowl x = CHECK.told(SIX);
        x.seat(0, 3);
        CHECK.due("by seats, not by numbers", x.apart(0, 4), 1);
        CHECK.due("by seats, not by numbers", x.apart(3, 4), 2);
    }

    private static void countOfWhat() {
        for (int wrong : new int[] {LEAST, -1, 13, 14, MOST}) {
            CHECK.stays("count(" + wrong + ")", x -> x.count(wrong), NONE);
        }
        int[] due = {5, 3, 2, 11, 6, 4, 1, 1};
        for (int what = 0; what < due.length; what++) {
            int asked = what;
            CHECK.stays("count(" + what + ")", x -> x.count(asked), due[what]);
        }
        CHECK.stays("count(10)", x -> x.count(10), 3);
        CHECK.stays("count(11)", x -> x.count(11), 2);
        CHECK.stays("count(12)", x -> x.count(12), 4);
    }

    private static void countsWhenEmptyAndFull() {
        String text = SIX + "fruit a 0 0;fruit b 0 0;fruit c 0 0;fruit d 0 0;fruit e 0 0;fruit f 0 0;fruit g 0 0;fruit h 0 0;"
                + "bite a 0;bite a 0;bite a 0;bite a 0;bite a 0;bite a 0;bite a 0;bite a 0;law dare " + "not ".repeat(63) + "1;";
        WaxBowl x = CHECK.told(text);
        int[] full = {6, 8, 8, 64, 0, 6, 0, 0, 0, 0, 0, 0, 0};
        for (int what = 0; what <= 12; what++) {
            CHECK.due("count(" + what + ")", x.count(what), full[what]);
        }
        for (int i = 0; i < 24; i++) {
            x.see(1, 0, 0, true);
        }
        for (int i = 0; i < 21; i++) {
            x.seat(0, 1);
        }
        CHECK.due("24 seen", x.count(10), 24);
        CHECK.due("all known", x.count(11), 24);
        CHECK.due("20 to undo", x.count(12), 20);
        x.go(99);
        CHECK.due("all have fainted", x.count(5), 0);
        CHECK.due("hunger of nobody", x.count(9), 0);
        CHECK.due("nothing to undo", x.count(12), 0);
    }

    public static void main(String[] args) {
        CHECK.test("6: IndexOutOfBoundsException: no such GUEST", CallEdgeTest::guestOfNumber);
        CHECK.test("6: NoSuchElementException: no such what", CallEdgeTest::guestOfWhat);
        CHECK.test("7: NONE: no such ones", CallEdgeTest::fruitOfNumberAndWhat);
        CHECK.test("8: Long.MIN_VALUE: no such law, no such ones", CallEdgeTest::lawOfOnes);
        CHECK.test("8: Long.MIN_VALUE: an ERROR, a law that isn't told", CallEdgeTest::lawThatIsNotTold);
        CHECK.test("9: false: no such ones, alike", CallEdgeTest::seatOfTwo);
        CHECK.test("9: who FAINTED, too", CallEdgeTest::seatOfWhoFainted);
        CHECK.test("10: bread 1 .. 99: HUNGER then, 0 at least", CallEdgeTest::breadOneToNinetyNine);
        CHECK.test("10: NONE: no such ones, not THERE", CallEdgeTest::breadOfOnes);
        CHECK.test("11: false: no such one, it is THERE", CallEdgeTest::wakeOfOnes);
        CHECK.test("12: so many STEPS (0 .. 200); NONE, and none does", CallEdgeTest::goSoMany);
        CHECK.test("12: NONE, and none does: behind 9000", CallEdgeTest::goToNineThousand);
        CHECK.test("23: -2: the SEAT is empty, there are no GUESTS", CallEdgeTest::bowlRoundTheTable);
        CHECK.test("24: -2: there are none", CallEdgeTest::uppermostFruit);
        CHECK.test("25: the hungriest, the first of several; -2: nobody is", CallEdgeTest::hungriestOfSeveral);
        CHECK.test("26, 34: FRUITS (bits) with a MARK, with none", CallEdgeTest::markedAndUntouched);
        CHECK.test("27: the shorter way; NONE: no such GUESTS", CallEdgeTest::apartRoundTheTable);
        CHECK.test("32: least MANNERS, the first of several; -2: nobody is", CallEdgeTest::rudestOfSeveral);
        CHECK.test("44: NONE for another what", CallEdgeTest::countOfWhat);
        CHECK.test("44: all empty, all full", CallEdgeTest::countsWhenEmptyAndFull);
        CHECK.end();
    }
}
