/** The edges of promises 41 to 43: 20 undone at most, no step since, an image or none. */
public final class UndoEdgeTest {
    private static final Check CHECK = new Check("UndoEdgeTest");
    private static final int NONE = WaxBowl.NONE;
    private static final String TWO = "guest a 99 98 0;guest b 99 50 0;";

    private static void undoNone() {
        CHECK.due("a new object", new WaxBowl().undo(), NONE);
        WaxBowl x = CHECK.told(TWO);
        CHECK.due("a text", x.undo(), NONE);
        CHECK.due("refused", x.bread(0, 100), NONE);
        CHECK.due("refused", x.seat(0, 0), false);
        CHECK.due("refused", x.wake(0), false);
        CHECK.due("nothing refused can be undone", x.undo(), NONE);
        x.bread(0, 1);
        CHECK.due("one: none are left", x.undo(), 0);
        CHECK.due("none", x.undo(), NONE);
        CHECK.due("hunger as told", x.guest(0, 1), 98);
        CHECK.due("still none", x.count(12), 0);
    }

    private static void undoTwenty() {
        for (int deeds : new int[] {1, 19, 20, 21, 40}) {
            WaxBowl x = CHECK.told(TWO);
            for (int i = 0; i < deeds; i++) {
                x.bread(0, 1);
            }
            int kept = Math.min(deeds, 20);
            CHECK.due("can be undone of " + deeds, x.count(12), kept);
            for (int left = kept - 1; left >= 0; left--) {
                CHECK.due("undo() of " + deeds, x.undo(), left);
            }
            CHECK.due("no more of " + deeds, x.undo(), NONE);
            CHECK.due("the first ones of " + deeds + " stay", x.guest(0, 1), 98 - (deeds - kept));
        }
    }

    private static void undoAndAnew() {
        WaxBowl x = CHECK.told(TWO);
        for (int i = 0; i < 21; i++) {
            x.bread(0, 1);
        }
        CHECK.due("undo", x.undo(), 19);
        x.bread(0, 10);
        CHECK.due("20 again", x.count(12), 20);
        x.bread(0, 10);
        CHECK.due("20 still", x.count(12), 20);
        for (int left = 19; left >= 0; left--) {
            CHECK.due("undo", x.undo(), left);
        }
        CHECK.due("two stay", x.guest(0, 1), 96);
    }

    /** The oldest of 21 is forgotten, be it a seating, a feeding or a waking; the others are undone as they were. */
    private static void undoTwentyOfAllKinds() {
        for (int first = 0; first < 3; first++) {
            WaxBowl x = CHECK.told("guest a 99 98 0;guest b 99 98 0;guest c 99 60 0;guest d 99 60 0;");
            x.go(1);
            boolean done = first == 0 ? x.seat(2, 3) : first == 1 ? x.bread(2, 1) == 60 : x.wake(0);
            CHECK.due("the oldest", done, true);
            CHECK.due("the second", x.wake(1), true);
            CHECK.due("the third", x.seat(1, 0), true);
            for (int i = 0; i < 18; i++) {
                CHECK.due("bread for b or d", x.bread(i % 2 == 0 ? 1 : 3, 1 + i) >= 0, true);
            }
            for (int left = 19; left >= 0; left--) {
                CHECK.due("undo", x.undo(), left);
            }
            CHECK.due("no more", x.undo(), NONE);
            int[] hunger = {first == 2 ? 50 : 99, 99, first == 1 ? 60 : 61, 61};
            int[] seat = {0, 1, first == 0 ? 3 : 2, first == 0 ? 2 : 3};
            for (int g = 0; g < 4; g++) {
                CHECK.due("hunger of " + g, x.guest(g, 1), hunger[g]);
                CHECK.due("seat of " + g, x.guest(g, 3), seat[g]);
                CHECK.due("there " + g, x.guest(g, 4), hunger[g] == 99 ? 0 : 1);
            }
        }
    }

    private static void undoTheLatestFirst() {
        WaxBowl x = CHECK.told(TWO);
        x.go(1);
        x.wake(0);
        x.bread(0, 99);
        x.seat(0, 1);
        CHECK.due("seat first", x.undo(), 2);
        CHECK.due("seat", x.guest(0, 3), 0);
        CHECK.due("hunger 0 still", x.guest(0, 1), 0);
        CHECK.due("then bread", x.undo(), 1);
        CHECK.due("all of it, cut at 0", x.guest(0, 1), 50);
        CHECK.due("there still", x.guest(0, 4), 1);
        CHECK.due("then the waking", x.undo(), 0);
        CHECK.due("it fainted", x.guest(0, 4), 0);
        CHECK.due("with its hunger", x.guest(0, 1), 99);
        CHECK.due("none", x.undo(), NONE);
        WaxBowl full = CHECK.told("guest a 9 0 0;");
        full.bread(0, 1);
        CHECK.due("bread by which nothing changed, too", full.undo(), 0);
    }

    private static void undoIfNoStepWentBy() {
        WaxBowl x = CHECK.told(TWO);
        x.bread(0, 50);
        CHECK.due("go(0)", x.go(0), 0);
        CHECK.due("no step went by", x.count(12), 1);
        CHECK.due("go(-1)", x.go(-1), NONE);
        CHECK.due("go(201)", x.go(201), NONE);
        CHECK.due("no step went by", x.count(12), 1);
        CHECK.due("go(1)", x.go(1), 1);
        CHECK.due("a step went by", x.count(12), 0);
        CHECK.due("none", x.undo(), NONE);
        CHECK.due("what was done stays", x.guest(0, 1), 49);
        x.bread(0, 1);
        CHECK.due("of this step alone", x.undo(), 0);
        CHECK.due("none", x.undo(), NONE);
        CHECK.due("49 again", x.guest(0, 1), 49);
    }

    private static void backToNone() {
        CHECK.due("a new object", new WaxBowl().back(), NONE);
        WaxBowl x = CHECK.told(TWO);
        x.bread(0, 7);
        CHECK.due("none", x.back(), NONE);
        CHECK.due("all stays", x.guest(0, 1), 91);
        CHECK.due("what can be undone stays", x.count(12), 1);
        CHECK.due("keep", x.keep(), 0);
        CHECK.due("what can be undone stays by keep", x.count(12), 1);
        CHECK.due("back", x.back(), 0);
        CHECK.due("nothing to undo then", x.count(12), 0);
        CHECK.due("back again", x.back(), 0);
        Check.tell(x, "near 9;");
        CHECK.due("a text with a fault leaves it", x.back(), 0);
        Check.tell(x, TWO);
        CHECK.due("a text ends it", x.back(), NONE);
        CHECK.due("of a text without lines", new WaxBowl().keep(), 0);
    }

    private static void imageInPlaceOfOneAhead() {
        WaxBowl x = CHECK.told(TWO);
        CHECK.due("keep", x.keep(), 0);
        x.go(5);
        CHECK.due("keep", x.keep(), 5);
        x.go(7);
        CHECK.due("back", x.back(), 5);
        CHECK.due("b's hunger", x.guest(1, 1), 55);
        CHECK.due("not to the first one", x.back(), 5);
        x.go(200);
        CHECK.due("from afar", x.back(), 5);
    }

    private static void imageOfAll() {
        WaxBowl x = Busy.bowl();
        CHECK.due("back to step 4", x.back(), 4);
        CHECK.due("cid has fainted", x.guest(2, 4), 0);
        CHECK.due("with 99", x.guest(2, 1), 99);
        for (int g = 0; g < 5; g++) {
            CHECK.due("seat of " + g, x.guest(g, 3), g);
        }
        CHECK.due("one bite", x.count(6), 1);
        CHECK.due("one eaten", x.count(7), 1);
        CHECK.due("fed", x.count(8), x.fruit(0, 4) + x.fruit(1, 4) + x.fruit(2, 4));
        CHECK.due("nothing to undo", x.undo(), NONE);
        CHECK.due("what was seen stays", x.count(10), 3);
        int[] numbers = new int[5];
        x.go(50);
        for (int g = 0; g < 5; g++) {
            numbers[g] = x.guest(g, 1);
        }
        CHECK.due("back again", x.back(), 4);
        x.go(50);
        for (int g = 0; g < 5; g++) {
            CHECK.due("the same draughts again: " + g, x.guest(g, 1), numbers[g]);
        }
    }

    public static void main(String[] args) {
        CHECK.test("41: NONE: none", UndoEdgeTest::undoNone);
        CHECK.test("41: 20 at most", UndoEdgeTest::undoTwenty);
        CHECK.test("41: 20 at most, done anew", UndoEdgeTest::undoAndAnew);
        CHECK.test("41: seating, feeding, waking, 20 at most", UndoEdgeTest::undoTwentyOfAllKinds);
        CHECK.test("41: the latest first", UndoEdgeTest::undoTheLatestFirst);
        CHECK.test("41: if no STEP went by since", UndoEdgeTest::undoIfNoStepWentBy);
        CHECK.test("43: NONE: there is none; nothing to undo then", UndoEdgeTest::backToNone);
        CHECK.test("42: in place of one ahead", UndoEdgeTest::imageInPlaceOfOneAhead);
        CHECK.test("43: all (but what was SEEN) is as in the IMAGE", UndoEdgeTest::imageOfAll);
        CHECK.end();
    }
}
