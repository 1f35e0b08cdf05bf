import java.nio.charset.StandardCharsets;
import java.util.List;

/** Counts the answers that are not as due, for the tests of one file. */
final class Check {
    /** One call on an object; a boolean answer counts 1 or 0. */
    interface Call {
        long on(WaxBowl bowl);
    }

    private final String name;
    private String sentence = "";
    private int tests = 0;
    private int asked = 0;
    private int wrong = 0;

    Check(String name) {
        this.name = name;
    }

    /** The test of one sentence of the document: its name is told with each answer that is not as due. */
    void test(String sentence, Runnable body) {
        this.sentence = sentence;
        tests++;
        int before = asked;
        try {
            body.run();
        } catch (RuntimeException e) {
            blame("threw " + e);
        }
        if (asked == before) {
            blame("nothing was asked");
        }
        this.sentence = "";
    }

    private void blame(String what) {
        wrong++;
        System.out.println(name + ": " + (sentence.isEmpty() ? "" : "[" + sentence + "] ") + what);
    }

    void due(String call, long got, long want) {
        asked++;
        if (got != want) {
            blame(call + " answered " + got + ", due is " + want);
        }
    }

    void due(String call, boolean got, boolean want) {
        due(call, got ? 1 : 0, want ? 1 : 0);
    }

    /** 1: guest() throws IndexOutOfBoundsException, 2: NoSuchElementException, 0: it answers. */
    static int thrownByGuest(WaxBowl bowl, int guest, int what) {
        try {
            bowl.guest(guest, what);
            return 0;
        } catch (IndexOutOfBoundsException e) {
            return 1;
        } catch (java.util.NoSuchElementException e) {
            return 2;
        }
    }

    /** Feeds a text, blanks behind it, and has it read. */
    static int tell(WaxBowl bowl, String text) {
        feedAll(bowl, text);
        return bowl.text(text.length());
    }

    static void feedAll(WaxBowl bowl, String text) {
        byte[] bytes = text.getBytes(StandardCharsets.ISO_8859_1);
        for (int at = 0; at < bytes.length; at += 20) {
            int[] five = new int[5];
            for (int i = 0; i < 20; i++) {
                int sign = at + i < bytes.length ? bytes[at + i] & 255 : ' ';
                five[i / 4] = five[i / 4] << 8 | sign;
            }
            bowl.feed(five[0], five[1], five[2], five[3], five[4]);
        }
    }

    /** A new object that was told a text, which must be without fault. */
    WaxBowl told(String text) {
        WaxBowl bowl = new WaxBowl();
        if (tell(bowl, text) < 0) {
            blame("fault " + bowl.fault(0) + " at " + bowl.fault(1) + " of " + text);
        }
        return bowl;
    }

    /** A text without fault. */
    void fine(String text, int lines) {
        WaxBowl x = new WaxBowl();
        due("text " + text, tell(x, text), lines);
        due("fault of " + text, x.fault(0), 0);
        due("place of " + text, x.fault(1), WaxBowl.NONE);
    }

    /** A text with a fault, behind which all is as it was but the tape, which is empty. */
    void fault(String text, int kind, int place) {
        WaxBowl x = Busy.withoutTape();
        due("text " + text, tell(x, text), WaxBowl.NONE);
        due("fault of " + text, x.fault(0), kind);
        due("place of " + text, x.fault(1), place);
        same("behind " + text, Busy.answers(x), Busy.ANSWERS_WITHOUT_TAPE);
    }

    /** A call that answers so and by which nothing becomes otherwise. */
    void stays(String call, Call asking, long want) {
        WaxBowl x = Busy.bowl();
        due(call, asking.on(x), want);
        staysBehind(call, x);
    }

    /** A call, whatever it answers, by which nothing becomes otherwise. */
    void stays(String call, Call asking) {
        WaxBowl x = Busy.bowl();
        asking.on(x);
        staysBehind(call, x);
    }

    private void staysBehind(String call, WaxBowl x) {
        due(call + ": then fault(0)", x.fault(0), Busy.FAULT);
        due(call + ": then fault(1)", x.fault(1), Busy.PLACE);
        same("behind " + call, Busy.answers(x), Busy.ANSWERS);
    }

    private void same(String call, List<String> got, List<String> want) {
        due(call + ": so many answers", got.size(), want.size());
        for (int i = 0; i < Math.min(got.size(), want.size()); i++) {
            asked++;
            if (!got.get(i).equals(want.get(i))) {
                blame(call + ": " + got.get(i) + ", due is " + want.get(i));
            }
        }
    }

    static int letters(String word) {
        int code = 0;
        for (int i = 0; i < 6; i++) {
            code = code << 5 | (i < word.length() ? word.charAt(i) - 'a' + 1 : 0);
        }
        return code;
    }

    void end() {
        String named = tests == 0 ? "" : tests + " sentences, ";
        System.out.println(name + ": " + named + asked + " answers, " + wrong + " not as due");
        if (wrong != 0 || asked == 0) {
            System.exit(1);
        }
    }
}
