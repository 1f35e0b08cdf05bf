/** Promises 41 to 43: undoing, images. */
public final class UndoTest {
    private static final Check CHECK = new Check("UndoTest");
    private static final String TEXT = "guest a 99 98 2;guest b 99 50 3;guest c 99 20 1;";

    private static void undoing() {
        WaxBowl x = CHECK.told(TEXT);
        CHECK.due("nothing yet", x.undo(), WaxBowl.NONE);
        x.go(1);
        CHECK.due("wake", x.wake(0), true);
        CHECK.due("bread", x.bread(0, 20), 30);
        CHECK.due("seat", x.seat(0, 2), true);
        CHECK.due("bread", x.bread(1, 99), 0);
        CHECK.due("four", x.count(12), 4);
        CHECK.due("bread back", x.undo(), 3);
        CHECK.due("hunger of b", x.guest(1, 1), 51);
        CHECK.due("seat back", x.undo(), 2);
        CHECK.due("seat of a", x.guest(0, 3), 0);
        CHECK.due("seat of c", x.guest(2, 3), 2);
        CHECK.due("bread back", x.undo(), 1);
        CHECK.due("hunger of a", x.guest(0, 1), 50);
        CHECK.due("there still", x.guest(0, 4), 1);
        CHECK.due("wake back", x.undo(), 0);
        CHECK.due("fainted", x.guest(0, 4), 0);
        CHECK.due("hunger as it fainted", x.guest(0, 1), 99);
        CHECK.due("none", x.undo(), WaxBowl.NONE);
    }

    private static void stepsEndIt() {
        WaxBowl x = CHECK.told(TEXT);
        x.seat(0, 1);
        CHECK.due("no step", x.go(0), 0);
        CHECK.due("can be undone", x.count(12), 1);
        CHECK.due("no such go", x.go(201), WaxBowl.NONE);
        CHECK.due("asked ahead", x.ahead(5, 1, 0), 1);
        CHECK.due("can be undone still", x.count(12), 1);
        x.go(1);
        CHECK.due("a step went by", x.count(12), 0);
        CHECK.due("none", x.undo(), WaxBowl.NONE);
        CHECK.due("seat stays", x.guest(0, 3), 1);
        x.bread(1, 5);
        CHECK.due("anew", x.undo(), 0);
        CHECK.due("wrong ones aren't done", x.bread(1, 0), WaxBowl.NONE);
        CHECK.due("wrong ones aren't done", x.seat(1, 1), false);
        CHECK.due("wrong ones aren't done", x.wake(1), false);
        CHECK.due("none", x.count(12), 0);
    }

    private static void twentyAtMost() {
        WaxBowl x = CHECK.told("guest a 99 98 2;guest b 99 50 3;");
        for (int i = 1; i <= 25; i++) {
            CHECK.due("bread " + i, x.bread(0, 2), 98 - 2 * i);
            CHECK.due("count " + i, x.count(12), Math.min(i, 20));
        }
        for (int i = 19; i >= 0; i--) {
            CHECK.due("undo", x.undo(), i);
        }
        CHECK.due("the first five stay", x.guest(0, 1), 88);
        CHECK.due("none", x.undo(), WaxBowl.NONE);
    }

    /** Deeds of all kinds, more than are kept, and back as far as it goes. */
    private static void twentyOfAllKinds() {
        WaxBowl x = CHECK.told("guest a 99 98 2;guest b 99 98 3;guest c 99 90 1;fruit p 0 0;fruit q 0 0;law praise 0;");
        x.go(1);
        int[][] deeds = {{2, 0, 0}, {1, 2, 5}, {0, 0, 1}, {1, 0, 7}, {0, 1, 2}, {1, 2, 9}, {2, 1, 0}, {0, 0, 2}};
        int[][] states = new int[28][];
        for (int i = 0; i < 28; i++) {
            states[i] = answers(x);
            int[] deed = i < deeds.length ? deeds[i] : new int[] {i % 2, i % 3, i % 2 == 0 ? (i + 1) % 3 : 1 + i % 5};
            boolean done = deed[0] == 0 ? x.seat(deed[1], deed[2])
                    : deed[0] == 1 ? x.bread(deed[1], deed[2]) >= 0 : x.wake(deed[1]);
            CHECK.due("deed " + i, done, true);
        }
        for (int i = 27; i >= 8; i--) {
            CHECK.due("undo " + i, x.undo(), i - 8);
            same("as ahead of " + i, answers(x), states[i]);
        }
        CHECK.due("no more", x.undo(), WaxBowl.NONE);
    }

    private static void images() {
        WaxBowl x = CHECK.told("guest a 5 90 2;guest b 50 50 3;guest c 99 60 1;fruit p 3 1;fruit q 1 0;cold 40;seed 7;");
        CHECK.due("none yet", x.back(), WaxBowl.NONE);
        x.go(3);
        x.seat(0, 2);
        CHECK.due("keep", x.keep(), 3);
        CHECK.due("what can be undone stays", x.count(12), 1);
        int[] then = answers(x);
        x.bread(1, 5);
        x.go(60);
        x.wake(0);
        x.wake(1);
        x.wake(2);
        x.seat(0, 1);
        int[] later = answers(x);
        CHECK.due("something has changed", java.util.Arrays.equals(then, later), false);
        CHECK.due("back", x.back(), 3);
        same("as in the image", answers(x), then);
        CHECK.due("nothing to undo then", x.count(12), 0);
        CHECK.due("nothing to undo then", x.undo(), WaxBowl.NONE);
        x.bread(1, 5);
        x.go(60);
        x.wake(0);
        x.wake(1);
        x.wake(2);
        x.seat(0, 1);
        same("the numbers come again", answers(x), later);
        CHECK.due("back again", x.back(), 3);
        same("as in the image", answers(x), then);
        x.go(10);
        CHECK.due("keep in place of it", x.keep(), 13);
        x.go(10);
        CHECK.due("back to the latter", x.back(), 13);
    }

    private static int[] answers(WaxBowl x) {
        int[] all = new int[3 * 7 + 2 * 5 + 10];
        int at = 0;
        for (int g = 0; g < 3; g++) {
            for (int what = 0; what < 7; what++) {
                all[at++] = x.guest(g, what);
            }
        }
        for (int f = 0; f < 2; f++) {
            for (int what = 0; what < 5; what++) {
                all[at++] = x.fruit(f, what);
            }
        }
        for (int what = 0; what < 10; what++) {
            all[at++] = x.count(what);
        }
        return all;
    }

    private static void same(String call, int[] got, int[] want) {
        for (int i = 0; i < want.length; i++) {
            CHECK.due(call + " " + i, got[i], want[i]);
        }
    }

    public static void main(String[] args) {
        undoing();
        stepsEndIt();
        twentyAtMost();
        twentyOfAllKinds();
        images();
        CHECK.end();
    }
}
