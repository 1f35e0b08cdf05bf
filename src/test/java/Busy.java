import java.util.ArrayList;
import java.util.List;

/** An object with something of everything in it, and all that it answers then: to see that a call left all as it was. */
final class Busy {
    /** Cid and eve faint in step 0, bob bites the real fruit in step 1, who sits on seat 4 wax in step 9; draughts come by numbers. */
    private static final String TEXT = "guest ann 60 30 3;guest bob 20 40 5;guest cid 65 98 2;guest eve 5 98 0;guest dot 90 20 9;"
            + "fruit fig 4 0;fruit nut 2 1;fruit pea 6 0;bite ann 9;bite dot 9;near 1;cold 30;seed 77;"
            + "law praise wit+sweet-marks;law dare hunger>manner;law shock there+marks;";
    private static final String NEXT_TEXT = "near 3;guest z 1 2 3;";
    private static final int GUESTS = 5;
    private static final int FRUITS = 3;

    /** The fault of the latest text that it was told. */
    static final int FAULT = 3;
    static final int PLACE = 7;

    static final List<String> ANSWERS = answers(bowl());
    static final List<String> ANSWERS_WITHOUT_TAPE = answers(withoutTape());

    private Busy() {
    }

    /** Four deeds to undo, cid woken, eve not, an image of step 4 at step 6, three seen, known by two, a fault, no tape. */
    static WaxBowl withoutTape() {
        WaxBowl x = new WaxBowl();
        Check.tell(x, TEXT);
        x.see(1, 1, 35, true);
        x.see(5, 1, 70, false);
        x.strike(0);
        x.known(2);
        x.go(4);
        x.keep();
        x.go(2);
        x.seat(0, 4);
        x.wake(2);
        x.bread(2, 10);
        x.seat(1, 2);
        Check.tell(x, "near 1;near 1;");
        return x;
    }

    /** The same, and a text on the tape that wasn't read yet. */
    static WaxBowl bowl() {
        WaxBowl x = withoutTape();
        Check.feedAll(x, NEXT_TEXT);
        return x;
    }

    /** What an object answers, its fault left out; it is used up by it. With an object of this class it is some 400 calls. */
    static List<String> answers(WaxBowl x) {
        List<String> all = new ArrayList<>();
        addState(all, x);
        addLaws(all, x);
        addPairs(all, x);
        addAhead(all, x);
        for (int i = 0; i < 5; i++) {
            put(all, "undo()", x.undo());
            addGuests(all, x, 1, 3, 4);
        }
        put(all, "keep's step: back()", x.back());
        addState(all, x);
        put(all, "go(7)", x.go(7));
        addGuests(all, x, 0, 1, 4, 6);
        put(all, "undo() behind steps", x.undo());
        put(all, "feed(0, 0, 0, 0, 0)", x.feed(0, 0, 0, 0, 0));
        put(all, "text(" + NEXT_TEXT.length() + ")", x.text(NEXT_TEXT.length()));
        for (int what = 0; what <= 12; what++) {
            put(all, "then count(" + what + ")", x.count(what));
        }
        return all;
    }

    private static void put(List<String> all, String call, long answer) {
        all.add(call + " answers " + answer);
    }

    private static void addGuests(List<String> all, WaxBowl x, int... whats) {
        for (int g = 0; g < Math.min(GUESTS, x.count(0)); g++) {
            for (int what : whats) {
                put(all, "guest(" + g + ", " + what + ")", x.guest(g, what));
            }
        }
    }

    private static void addState(List<String> all, WaxBowl x) {
        for (int what = 0; what <= 12; what++) {
            put(all, "count(" + what + ")", x.count(what));
        }
        addGuests(all, x, 0, 1, 2, 3, 4, 5, 6);
        for (int f = 0; f < FRUITS; f++) {
            for (int what = 0; what <= 4; what++) {
                put(all, "fruit(" + f + ", " + what + ")", x.fruit(f, what));
            }
        }
        put(all, "bowl()", x.bowl());
        put(all, "uppermost()", x.uppermost());
        put(all, "hungriest()", x.hungriest());
        put(all, "rudest()", x.rudest());
        put(all, "marked()", x.marked());
        put(all, "untouched()", x.untouched());
    }

    private static void addLaws(List<String> all, WaxBowl x) {
        for (int what = 0; what < 3; what++) {
            for (int g = 0; g < GUESTS; g++) {
                put(all, "law(" + what + ", " + g + ", " + g % FRUITS + ")", x.law(what, g, g % FRUITS));
            }
        }
        put(all, "named(0, bob)", x.named(0, Check.letters("bob")));
        put(all, "named(1, pea)", x.named(1, Check.letters("pea")));
        put(all, "named(0, z)", x.named(0, Check.letters("z")));
        put(all, "warm(2, 0)", x.warm(2, 0));
        put(all, "warm(2, 1)", x.warm(2, 1));
    }

    private static void addPairs(List<String> all, WaxBowl x) {
        for (int one = 0; one < GUESTS; one++) {
            for (int other = one + 1; other < GUESTS; other++) {
                put(all, "apart(" + one + ", " + other + ")", x.apart(one, other));
                put(all, "chain(" + one + ", " + other + ")", x.chain(one, other));
                put(all, "part(" + one + ", " + other + ")", x.part(one, other));
                put(all, "rests(" + one + ", " + other + ")", x.rests(one, other));
            }
        }
    }

    private static void addAhead(List<String> all, WaxBowl x) {
        for (int what = 0; what <= 4; what++) {
            put(all, "ahead(30, " + what + ", 1)", x.ahead(30, what, 1));
            put(all, "tried(" + what + ", 0, 30)", x.tried(what, 0, 30));
        }
        for (int what = 0; what <= 6; what++) {
            put(all, "table(" + what + ")", x.table(what));
        }
        for (int g = 0; g < GUESTS; g++) {
            put(all, "swoon(" + g + ")", x.swoon(g));
        }
        for (int f = 0; f < FRUITS; f++) {
            put(all, "sweets(" + f + ")", x.sweets(f));
            put(all, "eatenIn(" + f + ")", x.eatenIn(f));
        }
        put(all, "nextBite(0)", x.nextBite(0));
        put(all, "nextBite(1)", x.nextBite(1));
        put(all, "hold()", x.hold());
        put(all, "calm()", x.calm());
        put(all, "bestFed(0)", x.bestFed(0));
        put(all, "bestFed(1)", x.bestFed(1));
        put(all, "loaf(3, 90)", x.loaf(3, 90));
        put(all, "grace(20)", x.grace(20));
        put(all, "chance(5, 40, 1)", x.chance(5, 40, 1));
    }
}
