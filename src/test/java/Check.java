import java.nio.charset.StandardCharsets;

/** Counts the answers that are not as due, for the tests of one file. */
final class Check {
    private final String name;
    private int asked = 0;
    private int wrong = 0;

    Check(String name) {
        this.name = name;
    }

    void due(String call, long got, long want) {
        asked++;
        if (got != want) {
            wrong++;
            System.out.println(name + ": " + call + " answered " + got + ", due is " + want);
        }
    }

    void due(String call, boolean got, boolean want) {
        due(call, got ? 1 : 0, want ? 1 : 0);
    }

    /** 1: guest() throws IndexOutOfBoundsException, 2: NoSuchElementException, 0: it answers. */
    static int thrownByGuest(WaxBowl bowl, int guest, int what) {
        try {
            bowl.guest(guest, what);
            return 0;
        } catch (IndexOutOfBoundsException e) {
            return 1;
        } catch (java.util.NoSuchElementException e) {
            return 2;
        }
    }

    /** Feeds a text, blanks behind it, and has it read. */
    static int tell(WaxBowl bowl, String text) {
        feedAll(bowl, text);
        return bowl.text(text.length());
    }

    static void feedAll(WaxBowl bowl, String text) {
        byte[] bytes = text.getBytes(StandardCharsets.ISO_8859_1);
        for (int at = 0; at < bytes.length; at += 20) {
            int[] five = new int[5];
            for (int i = 0; i < 20; i++) {
                int sign = at + i < bytes.length ? bytes[at + i] & 255 : ' ';
                five[i / 4] = five[i / 4] << 8 | sign;
            }
            bowl.feed(five[0], five[1], five[2], five[3], five[4]);
        }
    }

    /** A new object that was told a text, which must be without fault. */
    WaxBowl told(String text) {
        WaxBowl bowl = new WaxBowl();
        if (tell(bowl, text) < 0) {
            wrong++;
            System.out.println(name + ": fault " + bowl.fault(0) + " at " + bowl.fault(1) + " of " + text);
        }
        return bowl;
    }

    static int letters(String word) {
        int code = 0;
        for (int i = 0; i < 6; i++) {
            code = code << 5 | (i < word.length() ? word.charAt(i) - 'a' + 1 : 0);
        }
        return code;
    }

    void end() {
        System.out.println(name + ": " + asked + " answers, " + wrong + " not as due");
        if (wrong != 0 || asked == 0) {
            System.exit(1);
        }
    }
}
