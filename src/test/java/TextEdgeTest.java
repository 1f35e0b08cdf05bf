/** The edges of the TEXT (Terms) and of promises 1 to 5: the last input that is taken, and the first one that isn't. */
public final class TextEdgeTest {
    private static final Check CHECK = new Check("TextEdgeTest");
    private static final int NONE = WaxBowl.NONE;

    private static final String[] LINE_WORDS = {"guest", "fruit", "bite", "near", "cold", "seed", "law"};
    private static final String[] LAW_WORDS = {"praise", "dare", "shock"};
    private static final String[] NAMES = {"manner", "hunger", "wit", "sweet", "marks", "there", "step"};
    private static final String[] JOINING = {"or", "and", "<", "<=", "=", "<>", ">=", ">", "+", "-", "*", "/"};
    private static final String[] COMPARING = {"<", "<=", "=", "<>", ">=", ">"};
    /** Signs that are none: also the first ones beside small letters, digits, blanks. */
    private static final String[] NO_TOKENS = {"!", "A", "Z", "`", "{", ":", "\t", "\r", "\u0000", "\u00e9", "\u00ff", "abcdefg"};

    private static String[] allTokens() {
        return join(LINE_WORDS, LAW_WORDS, NAMES, JOINING, NO_TOKENS, new String[] {"not", "(", ")", ";", "7", "ab"});
    }

    private static String[] join(String[]... rows) {
        return java.util.Arrays.stream(rows).flatMap(java.util.Arrays::stream).toArray(String[]::new);
    }

    private static boolean isIn(String token, String[] row) {
        return java.util.Arrays.asList(row).contains(token);
    }

    private static String guests(int n) {
        StringBuilder text = new StringBuilder();
        for (int g = 0; g < n; g++) {
            text.append("guest ").append((char) ('a' + g)).append(" 1 1 1;");
        }
        return text.toString();
    }

    private static String fruits(int n) {
        StringBuilder text = new StringBuilder();
        for (int f = 0; f < n; f++) {
            text.append("fruit ").append((char) ('a' + f)).append(" 1 1;");
        }
        return text.toString();
    }

    // Terms: the tokens

    private static void textWithoutLines() {
        CHECK.fine("", 0);
        CHECK.fine(" ", 0);
        CHECK.fine("\n \n", 0);
        CHECK.fault(";", 1, 0);
        CHECK.fault(" ;", 1, 1);
    }

    private static void everyByteBetweenTokens() {
        for (int b = 0; b < 256; b++) {
            String text = "near" + (char) b + "1;";
            if (b == 10 || b == 32 || b == '0') {
                CHECK.fine(text, 1);
            } else if (b >= '1' && b <= '9') {
                CHECK.fault(text, 2, 4);
            } else {
                CHECK.fault(text, 1, b >= 'a' && b <= 'z' ? 0 : 4);
            }
        }
    }

    private static void everyByteAsName() {
        for (int b = 0; b < 256; b++) {
            String text = "guest " + (char) b + " 1 1 1;";
            if (b >= 'a' && b <= 'z') {
                CHECK.fine(text, 1);
                CHECK.due("named " + (char) b, CHECK.told(text).named(0, (b - 'a' + 1) << 25), 0);
            } else {
                CHECK.fault(text, 1, b == 10 || b == 32 ? 8 : 6);
            }
        }
    }

    private static void everyByteAsNumber() {
        for (int b = 0; b < 256; b++) {
            String text = "near " + (char) b + ";";
            if (b >= '1' && b <= '5') {
                CHECK.fine(text, 1);
            } else if (b >= '0' && b <= '9') {
                CHECK.fault(text, 2, 5);
            } else {
                CHECK.fault(text, 1, b == 10 || b == 32 ? 6 : 5);
            }
        }
    }

    private static void everyByteAsSign() {
        for (int b = 0; b < 256; b++) {
            String text = "law dare 1" + (char) b + "2;";
            if (b >= '0' && b <= '9' || "<=>+-*/".indexOf(b) >= 0) {
                CHECK.fine(text, 1);
            } else {
                CHECK.fault(text, 1, b == 10 || b == 32 || b == ';' ? 11 : 10);
            }
        }
    }

    private static void wordsOfOneToSixLetters() {
        for (String kind : new String[] {"guest % 1 1 1;", "fruit % 1 1;"}) {
            CHECK.fine(kind.replace("%", "a"), 1);
            CHECK.fine(kind.replace("%", "abcdef"), 1);
            CHECK.fault(kind.replace("%", "abcdefg"), 1, 6);
            CHECK.fault(kind.replace("%", "z".repeat(600)), 1, 6);
            CHECK.fault(kind.replace("%", ""), 1, 7);
        }
        CHECK.fine("guest abcdef 1 1 1;bite abcdef 1;", 2);
        CHECK.fault("guest abcdef 1 1 1;bite abcdefg 1;", 1, 24);
        CHECK.fault("guest abcdef 1 1 1;bite abcde 1;", 4, 24);
        WaxBowl x = CHECK.told("guest a 1 1 1;guest aaaaaa 1 1 1;guest zzzzzz 1 1 1;");
        CHECK.due("one letter", x.named(0, 1 << 25), 0);
        CHECK.due("six of the first letter", x.named(0, 0x02108421), 1);
        CHECK.due("six of the last letter", x.named(0, 0x35ad6b5a), 2);
    }

    private static void namesAreNoneOfTheLanguage() {
        for (String word : join(LINE_WORDS, LAW_WORDS, NAMES, new String[] {"or", "and", "not"})) {
            CHECK.fault("guest " + word + " 1 1 1;", 1, 6);
            CHECK.fault("fruit " + word + " 1 1;", 1, 6);
            CHECK.fault("bite " + word + " 1;", 1, 5);
            String shorter = word.substring(0, word.length() - 1);
            CHECK.fine("guest " + shorter + " 1 1 1;fruit " + shorter + " 1 1;bite " + shorter + " 1;", 3);
            String longer = word + "s";
            if (longer.length() > 6) {
                CHECK.fault("guest " + longer + " 1 1 1;", 1, 6);
            } else {
                CHECK.fine("guest " + longer + " 1 1 1;fruit " + longer + " 1 1;bite " + longer + " 1;", 3);
            }
        }
    }

    private static void signsOfTwo() {
        String[] good = {"1<=2", "1>=2", "1<>2", "1<2", "1>2", "1=2"};
        long[] values = {1, 0, 1, 1, 0, 0};
        for (int i = 0; i < good.length; i++) {
            CHECK.due(good[i], CHECK.told("guest a 1 1 1;fruit p 1 1;law dare " + good[i] + ";").law(1, 0, 0), values[i]);
        }
        for (String apart : new String[] {"1< =2", "1> =2", "1< >2", "1<\n=2"}) {
            CHECK.fault("law dare " + apart + ";", 1, 12);
        }
        for (String wrong : new String[] {"1=<2", "1=>2", "1><2", "1==2", "1>>2", "1<<2"}) {
            CHECK.fault("law dare " + wrong + ";", 1, 11);
        }
        for (String third : new String[] {"1<==2", "1<=>2", "1<>=2", "1>==2", "1<>>2"}) {
            CHECK.fault("law dare " + third + ";", 1, 12);
        }
    }

    // Terms: what stands where

    private static void moreMustCome() {
        String[] tokens = ("guest ab 10 20 3 ; fruit pq 5 1 ; bite ab 7 ; near 2 ; cold 30 ; seed 123 ; law dare wit ; "
                + "law shock not ( 1 + 2 ) * 3 < 4 ;").split(" ");
        StringBuilder text = new StringBuilder();
        int lines = 0;
        for (String token : tokens) {
            text.append(text.length() == 0 ? "" : " ").append(token);
            if (token.equals(";")) {
                lines++;
                CHECK.fine(text.toString(), lines);
                CHECK.fine(text + " \n", lines);
            } else {
                CHECK.fault(text.toString(), 1, text.length());
                CHECK.fault(text + " \n", 1, text.length() + 2);
            }
        }
    }

    private static void everyTokenInEveryLine() {
        String[] number = {"7"};
        String[] word = {"ab"};
        String[] semicolon = {";"};
        everyTokenIn("", new String[] {"guest", "cd", "10", "20", "3", ";"}, LINE_WORDS, word, number, number, number, semicolon);
        everyTokenIn("", new String[] {"fruit", "cd", "5", "1", ";"}, LINE_WORDS, word, number, number, semicolon);
        everyTokenIn("guest ab 1 1 1;", new String[] {"bite", "ab", "10", ";"}, LINE_WORDS, word, number, semicolon);
        everyTokenIn("", new String[] {"near", "1", ";"}, LINE_WORDS, number, semicolon);
        everyTokenIn("", new String[] {"cold", "1", ";"}, LINE_WORDS, number, semicolon);
        everyTokenIn("", new String[] {"seed", "1", ";"}, LINE_WORDS, number, semicolon);
        everyTokenIn("", new String[] {"law", "dare", "1", ";"}, LINE_WORDS, LAW_WORDS,
                join(NAMES, number, new String[] {"(", "not"}), join(JOINING, semicolon));
    }

    /** Each token that can't stand at a place of a line, put there, is fault 1 at its place. */
    private static void everyTokenIn(String ahead, String[] line, String[]... fits) {
        StringBuilder before = new StringBuilder(ahead);
        for (int i = 0; i < line.length; i++) {
            for (String token : allTokens()) {
                if (!isIn(token, fits[i])) {
                    CHECK.fault(before + token, 1, before.length());
                    CHECK.fault(before + token + " 1;", 1, before.length());
                }
            }
            before.append(line[i]).append(' ');
        }
    }

    private static void everyTokenInEveryE() {
        String[] values = join(NAMES, new String[] {"7", "("});
        String[] valuesOrNot = join(values, new String[] {"not"});
        for (String context : new String[] {"", "(", "1 or", "1 and", "not", "not not", "1 < (", "1 + (", "1 < 2 and", "(1) or"}) {
            everyTokenBehind(context, valuesOrNot);
        }
        for (String sign : JOINING) {
            if (!sign.equals("or") && !sign.equals("and")) {
                everyTokenBehind("1 " + sign, values);
                everyTokenBehind("not 1 " + sign, values);
            }
        }
        String[] notComparing = java.util.Arrays.stream(JOINING).filter(s -> !isIn(s, COMPARING)).toArray(String[]::new);
        for (String context : new String[] {"1", "wit", "(1)", "not 1", "1 < 2 and 3", "1 < 2 or 3", "(1 < 2)", "1 + (1 < 2)", "1 * 2 / 3"}) {
            everyTokenBehind(context, join(JOINING, new String[] {";"}));
        }
        for (String context : new String[] {"1 < 2", "not 1 < 2", "1 = 2 + 3", "1 > (2 < 3)", "1 or 2 <> 3"}) {
            everyTokenBehind(context, join(notComparing, new String[] {";"}));
        }
        everyTokenBehind("(1", join(JOINING, new String[] {")"}));
        everyTokenBehind("1 < (2", join(JOINING, new String[] {")"}));
        everyTokenBehind("(1 < 2", join(notComparing, new String[] {")"}));
        everyTokenBehind("((1)", join(JOINING, new String[] {")"}));
    }

    private static void everyTokenBehind(String context, String[] fits) {
        String before = "law dare " + context + " ";
        for (String token : allTokens()) {
            String text = before + token;
            if (!isIn(token, fits)) {
                CHECK.fault(text, 1, before.length());
            } else if (token.equals(";")) {
                CHECK.fine(text, 1);
            } else {
                CHECK.fault(text, 1, text.length());
            }
        }
    }

    // Terms: how much may be told

    private static void atMostSixGuests() {
        CHECK.fine(guests(6), 6);
        CHECK.due("six", CHECK.told(guests(6)).count(0), 6);
        CHECK.due("the sixth", CHECK.told(guests(6)).named(0, Check.letters("f")), 5);
        CHECK.fault(guests(7), 2, guests(6).length());
        CHECK.fault(guests(6) + "guest", 2, guests(6).length());
        CHECK.fault(guests(6) + "guest 1 law !", 2, guests(6).length());
    }

    private static void atMostEightFruits() {
        CHECK.fine(fruits(8), 8);
        CHECK.due("eight", CHECK.told(fruits(8)).count(1), 8);
        CHECK.due("the eighth", CHECK.told(fruits(8)).named(1, Check.letters("h")), 7);
        CHECK.fault(fruits(9), 2, fruits(8).length());
        CHECK.fault(fruits(8) + "fruit", 2, fruits(8).length());
        CHECK.fine(guests(6) + fruits(8), 14);
    }

    private static void atMostEightBites() {
        String eight = guests(1) + "bite a 1;".repeat(8);
        CHECK.fine(eight, 9);
        CHECK.due("eight", CHECK.told(eight).count(2), 8);
        CHECK.fault(eight + "bite a 1;", 2, eight.length());
        CHECK.fault(eight + "bite", 2, eight.length());
        CHECK.fine(eight + guests(6).substring(14) + fruits(8), 22);
    }

    /** A number's line with % in its place, the least and the most that is taken. */
    private static void numberOf(String line, long least, long most) {
        int place = line.indexOf('%');
        int lines = line.split(";").length;
        for (long good : new long[] {least, most}) {
            CHECK.fine(line.replace("%", "" + good), lines);
            CHECK.fine(line.replace("%", "0000000000000000000000" + good), lines);
        }
        if (least > 0) {
            CHECK.fault(line.replace("%", "" + (least - 1)), 2, place);
        }
        String[] beyond = {"" + (most + 1), "" + most + "0", "2147483647", "2147483648", "4294967295", "" + (4294967296L + least),
            "9223372036854775807", "9223372036854775808", "1844674407370955161" + (6 + least), "1" + "0".repeat(400)};
        for (String number : beyond) {
            CHECK.fault(line.replace("%", number), 2, place);
        }
        CHECK.fault(line.replace("%", "-1"), 1, place);
    }

    private static void lawNumbers() {
        numberOf("law dare %;", 0, 9999);
        numberOf("law dare wit + (%);", 0, 9999);
        String two = "guest a 1 1 1;fruit p 1 1;";
        CHECK.due("0", CHECK.told(two + "law dare 0;").law(1, 0, 0), 0);
        CHECK.due("9999", CHECK.told(two + "law dare 9999;").law(1, 0, 0), 9999);
    }

    private static void guestNumbersHold() {
        WaxBowl x = CHECK.told("guest a 0 98 0;guest b 99 0 9;");
        int[][] due = {{0, 98, 0}, {99, 0, 9}};
        for (int g = 0; g < 2; g++) {
            for (int what = 0; what < 3; what++) {
                CHECK.due("guest(" + g + ", " + what + ")", x.guest(g, what), due[g][what]);
            }
        }
    }

    private static void fruitNumbersHold() {
        WaxBowl x = CHECK.told("fruit p 0 1;fruit q 9 0;");
        CHECK.due("sweet 0", x.fruit(0, 0), 0);
        CHECK.due("real 1", x.fruit(0, 1), 1);
        CHECK.due("sweet 9", x.fruit(1, 0), 9);
        CHECK.due("real 0", x.fruit(1, 1), 0);
    }

    private static void biteStepsHold() {
        String one = "guest a 99 0 9;guest b 99 0 9;fruit p 9 0;";
        WaxBowl first = CHECK.told(one + "bite a 0;");
        CHECK.due("at step 0", first.nextBite(0), 1);
        WaxBowl last = CHECK.told(one + "bite b 99;");
        CHECK.due("at step 99", last.nextBite(0), 100);
        CHECK.due("none behind 99 steps", last.ahead(99, 0, 0), 0);
        CHECK.due("one behind 100", last.ahead(100, 0, 0), 1);
        CHECK.due("no more behind 200", last.ahead(200, 0, 0), 1);
    }

    private static void nearHolds() {
        String six = guests(6);
        int[] heard = {0, 0b100010, 0b110110, 0b111110, 0b111110, 0b111110};
        for (int near = 1; near <= 5; near++) {
            CHECK.due("near " + near, CHECK.told(six + "near " + near + ";").guest(0, 5), heard[near]);
        }
        CHECK.due("1 without", CHECK.told(six).guest(0, 5), heard[1]);
    }

    private static void coldHolds() {
        CHECK.due("0", CHECK.told("cold 0;").warm(1, 0), 1);
        CHECK.due("1", CHECK.told("cold 1;").warm(1, 0), 99);
        CHECK.due("99", CHECK.told("cold 99;").warm(1, 0), 1);
        CHECK.due("99, below", CHECK.told("cold 99;").warm(1, 1), 100);
        CHECK.due("100", CHECK.told("cold 100;").warm(1, 0), 0);
        CHECK.due("0 without", CHECK.told("near 1;").warm(1, 0), 1);
    }

    private static void seedHolds() {
        CHECK.due("0", hungerBySeed("seed 0;"), hungerByNumbers(0));
        CHECK.due("99999", hungerBySeed("seed 99999;"), hungerByNumbers(99999));
        CHECK.due("0 without", hungerBySeed(""), hungerByNumbers(0));
        CHECK.due("the two aren't alike", hungerByNumbers(0) == hungerByNumbers(99999), false);
    }

    private static int hungerBySeed(String line) {
        WaxBowl x = CHECK.told("guest a 99 0 0;cold 50;" + line);
        x.go(13);
        return x.guest(0, 1);
    }

    private static int hungerByNumbers(long number) {
        int hunger = 0;
        for (int i = 0; i < 13; i++) {
            number = (number * 1103515245L + 12345L) % 2147483648L;
            hunger += number / 65536 % 100 < 50 ? 3 : 1;
        }
        return hunger;
    }

    private static void eightOpen() {
        CHECK.fine("law dare " + "(".repeat(8) + "1" + ")".repeat(8) + ";", 1);
        CHECK.fault("law dare " + "(".repeat(9) + "1" + ")".repeat(9) + ";", 2, 17);
        String closed = "law dare " + "(".repeat(8) + "1" + ")".repeat(8) + "+";
        CHECK.fine(closed + "(".repeat(8) + "1" + ")".repeat(8) + ";", 1);
        CHECK.fault(closed + "(".repeat(9), 2, closed.length() + 8);
        String seven = "law dare " + "(".repeat(8) + "1)+";
        CHECK.fine(seven + "(1" + ")".repeat(8) + ";", 1);
        CHECK.fault(seven + "((", 2, seven.length() + 1);
        CHECK.fine("law dare (1);law praise " + "(".repeat(8) + "1" + ")".repeat(8) + ";", 2);
        CHECK.fault("law dare " + "(".repeat(8) + "1(", 1, 18);
        WaxBowl x = new WaxBowl();
        for (int i = 0; i < 12; i++) {
            CHECK.due("a text with a fault", Check.tell(x, "law dare not " + "(".repeat(8) + "1 + !"), NONE);
        }
        CHECK.due("none is open in the next one", Check.tell(x, "law dare " + "(".repeat(8) + "5" + ")".repeat(8) + ";" + guests(1) + fruits(1)), 3);
        CHECK.due("and nothing waits", x.law(1, 0, 0), 5);
    }

    private static void sixtyFourKnots() {
        String nots = "law dare " + "not ".repeat(63) + "1";
        CHECK.fine(nots + ";", 1);
        CHECK.due("64", CHECK.told(nots + ";").count(3), 64);
        for (String joining : JOINING) {
            CHECK.fault(nots + " " + joining + " 1;", 2, nots.length() + 1);
        }
        for (String value : join(NAMES, new String[] {"0", "9999", "not 1"})) {
            CHECK.fault(nots + ";law shock " + value + ";", 2, nots.length() + 11);
            CHECK.fault(nots + ";law shock ((" + value + "));", 2, nots.length() + 13);
        }
        for (String joining : JOINING) {
            String sixtyThree = "law praise 1" + "+1".repeat(30) + " " + joining + " 1";
            CHECK.due("63 with " + joining, CHECK.told(sixtyThree + ";").count(3), 63);
            CHECK.fine(sixtyThree + ";law dare 1;", 2);
            CHECK.fault(sixtyThree + " or 1;", 2, sixtyThree.length() + 4);
            CHECK.fault(sixtyThree + ";law dare 1 + 1;", 2, sixtyThree.length() + 12);
        }
        String open = "law dare ((((((((" + "not ".repeat(63) + "1))))))))";
        CHECK.due("( is none", CHECK.told(open + ";").count(3), 64);
        CHECK.due("a new text begins with none", Check.tell(CHECK.told(open + ";"), open + ";"), 1);
    }

    // Terms: faults of one text

    private static void theFirstFaultAlongTheText() {
        CHECK.fault("near 9;guest law;", 2, 5);
        CHECK.fault("guest law 1 1 1;near 9;", 1, 6);
        CHECK.fault("near 1;near 9;!", 3, 7);
        CHECK.fault("bite a 100;guest a 1 1 1;", 4, 5);
        CHECK.fault("guest a 100 99 10", 2, 8);
        CHECK.fault("guest a 1 99 10", 2, 10);
        CHECK.fault(guests(6) + "guest a 100 1 1;", 2, 84);
        CHECK.fault(guests(1) + "bite a 1;".repeat(8) + "bite b 100;", 2, 86);
        CHECK.fault("guest a 1 1 1;guest a 100 1 1;", 3, 20);
        CHECK.fault("law dare 1;law dare !;", 3, 15);
        CHECK.fault("law dare 10000", 2, 9);
    }

    private static void ofOnePlaceTheLeast() {
        CHECK.fault("law dare " + "(".repeat(8) + "1 (", 1, 19);
        String nots = "law dare " + "not ".repeat(63) + "1 ";
        CHECK.fault(nots + "not 1;", 1, nots.length());
        CHECK.fault(nots + "1;", 1, nots.length());
        CHECK.fault(nots + "wit;", 1, nots.length());
        CHECK.fault(nots + "10000;", 1, nots.length());
        CHECK.fault("law dare 1 10000;", 1, 11);
        String compared = "law dare 1 = 1" + "+1".repeat(30) + " ";
        CHECK.fault(compared + "= 1;", 1, compared.length());
        CHECK.fault("law dare " + "not ".repeat(64) + "10000;", 2, 9 + 256);
        CHECK.fault("near 1;near", 3, 7);
        CHECK.fault("guest a 1 1 1;bite abcdefg 1;", 1, 19);
    }

    private static void toldAlready() {
        CHECK.fault("guest a 1 1 1;guest a 1 1 1;", 3, 20);
        CHECK.fine("guest a 1 1 1;guest b 1 1 1;", 2);
        CHECK.fault("fruit a 1 1;fruit a 1 1;", 3, 18);
        CHECK.fine("guest a 1 1 1;fruit a 1 1;", 2);
        CHECK.fine("fruit a 1 1;guest a 1 1 1;bite a 1;bite a 1;", 4);
        CHECK.fault(guests(5) + "guest a 1 1 1;", 3, guests(5).length() + 6);
        CHECK.fault(fruits(7) + "fruit g 1 1;", 3, fruits(7).length() + 6);
        CHECK.fault("guest abcdef 1 1 1;guest abcdef 1 1 1;", 3, 25);
        CHECK.fine("guest abcdef 1 1 1;guest abcdeg 1 1 1;guest abcde 1 1 1;", 3);
        for (String word : new String[] {"near", "cold", "seed"}) {
            CHECK.fault(word + " 1;" + word + " 1;", 3, 7);
        }
        CHECK.fine("near 1;cold 1;seed 1;", 3);
        for (String law : LAW_WORDS) {
            String once = "law " + law + " 1;";
            CHECK.fault(once + once, 3, once.length() + 4);
        }
        CHECK.fine("law shock 1;law dare 1;law praise 1;", 3);
    }

    private static void notToldAhead() {
        CHECK.fine("guest a 1 1 1;bite a 1;", 2);
        CHECK.fault("bite a 1;guest a 1 1 1;", 4, 5);
        CHECK.fault("guest b 1 1 1;bite a 1;", 4, 19);
        CHECK.fault("fruit a 1 1;bite a 1;", 4, 17);
        CHECK.fault(guests(6) + "bite g 1;", 4, guests(6).length() + 5);
        CHECK.fine(guests(6) + "bite f 1;", 7);
        WaxBowl x = CHECK.told("guest a 1 1 1;");
        CHECK.due("told by the text before doesn't count", Check.tell(x, "bite a 1;"), NONE);
        CHECK.due("fault 4", x.fault(0), 4);
    }

    // Promises 1 to 5

    private static void newObject() {
        WaxBowl x = new WaxBowl();
        for (int what = 0; what <= 12; what++) {
            CHECK.due("count(" + what + ")", x.count(what), 0);
        }
        CHECK.due("no fault", x.fault(0), 0);
        CHECK.due("no place", x.fault(1), NONE);
        CHECK.due("no guest", Check.thrownByGuest(x, 0, 0), 1);
        CHECK.due("no fruit", x.fruit(0, 0), NONE);
        CHECK.due("no image", x.back(), NONE);
        CHECK.due("nothing to undo", x.undo(), NONE);
        CHECK.due("an empty tape", x.text(1), -2);
        CHECK.due("a text without lines", x.text(0), 0);
        CHECK.due("steps go by without guests", x.go(200), 200);
        CHECK.due("the first bytes", x.feed(0, 0, 0, 0, 0), 20);
    }

    private static void tapeOfSevenHundred() {
        WaxBowl x = new WaxBowl();
        for (int i = 1; i <= 34; i++) {
            CHECK.due("feed", x.feed(0x20202020, 0x20202020, 0x20202020, 0x20202020, 0x20202020), 20 * i);
        }
        CHECK.due("700", x.feed(0x20202020, 0x20202020, 0x20202020, 0x20202020, 0x206e6561), 700);
        CHECK.due("no more", x.feed(0x72203520, 0, 0, 0, 0), NONE);
        CHECK.due("no more again", x.feed(0, 0, 0, 0, 0), NONE);
        CHECK.due("none came", x.text(701), -2);
        CHECK.due("none came", x.text(720), -2);
        CHECK.due("the word is cut at 700", x.text(700), NONE);
        CHECK.due("fault", x.fault(0), 1);
        CHECK.due("place", x.fault(1), 697);
        CHECK.due("empty then", x.feed(0, 0, 0, 0, 0), 20);
    }

    private static void fullTapeIsRead() {
        String line = "near 5;";
        String text = " ".repeat(700 - line.length()) + line;
        WaxBowl x = new WaxBowl();
        Check.feedAll(x, text);
        CHECK.due("full", x.feed(0, 0, 0, 0, 0), NONE);
        CHECK.due("there are not so many", x.text(701), -2);
        CHECK.due("700 bytes", x.text(700), 1);
        CHECK.fault(text.substring(0, 699), 1, 699);
        CHECK.fault(";".repeat(700), 1, 0);
        CHECK.fine("law dare " + " ".repeat(689) + "1;", 1);
        String guest = "guest a 1 1 1";
        CHECK.fault(guest + " ".repeat(700 - guest.length()), 1, 700);
    }

    private static void bytesOfFeed() {
        WaxBowl x = new WaxBowl();
        x.feed(0x6e656172, 0x20323b63, 0x6f6c6420, 0x31303020, 0x3b20ffff);
        CHECK.due("near 2;cold 100 ;, the highest first", x.text(18), 2);
        CHECK.due("cold 100", x.warm(1, 0), 0);
        x.feed(0xff000000, 0, 0, 0, 0);
        CHECK.due("255 is no blank", x.text(1), NONE);
        CHECK.due("at 0", x.fault(1), 0);
        x.feed(0x20202020, 0x20202020, 0x20202020, 0x20202020, 0x20202080);
        CHECK.due("19 blanks", x.text(19), 0);
        x.feed(0x20202020, 0x20202020, 0x20202020, 0x20202020, 0x20202080);
        CHECK.due("the last byte is 128", x.text(20), NONE);
        CHECK.due("at 19", x.fault(1), 19);
    }

    private static void textOfSoManyBytes() {
        CHECK.stays("text(-1)", x -> x.text(-1), -2);
        CHECK.stays("text(41)", x -> x.text(41), -2);
        CHECK.stays("text(701)", x -> x.text(701), -2);
        CHECK.stays("text(least)", x -> x.text(Integer.MIN_VALUE), -2);
        CHECK.stays("text(most)", x -> x.text(Integer.MAX_VALUE), -2);
        WaxBowl all = Busy.bowl();
        CHECK.due("text(40), blanks behind", all.text(40), 2);
        CHECK.due("empty then", all.text(1), -2);
        WaxBowl none = Busy.bowl();
        CHECK.due("text(0)", none.text(0), 0);
        CHECK.due("empty then", none.text(1), -2);
        CHECK.due("no guests then", none.count(0), 0);
        WaxBowl some = Busy.bowl();
        CHECK.due("text(7) is the first line", some.text(7), 1);
        CHECK.due("the rest is gone", some.text(1), -2);
        WaxBowl cut = Busy.bowl();
        CHECK.due("text(20) lacks the last byte", cut.text(20), NONE);
        CHECK.due("fault 1", cut.fault(0), 1);
        CHECK.due("at the length", cut.fault(1), 20);
        CHECK.due("empty, too", cut.text(1), -2);
        CHECK.due("the former text stays", cut.count(0), 5);
    }

    private static void textBeginsAnew() {
        WaxBowl x = Busy.bowl();
        CHECK.due("two lines", x.text(21), 2);
        int[] begun = {1, 0, 0, 0, 0, 1, 0, 0, 0, 2, 0, 0, 0};
        for (int what = 0; what <= 12; what++) {
            CHECK.due("count(" + what + ")", x.count(what), begun[what]);
        }
        CHECK.due("no image", x.back(), NONE);
        CHECK.due("nothing to undo", x.undo(), NONE);
        CHECK.due("no fault", x.fault(0), 0);
        CHECK.due("no place", x.fault(1), NONE);
        CHECK.due("no law", x.law(0, 0, 0), Long.MIN_VALUE);
        CHECK.due("no cold", x.warm(1, 1), 1);
        CHECK.due("all known: one comes", x.see(1, 0, 0, true), 0);
        CHECK.due("all known", x.count(11), 1);
    }

    private static void textAnewOfTheSame() {
        String text = "guest a 9 60 1;guest b 50 98 1;guest c 50 9 1;fruit p 3 1;fruit q 3 0;";
        WaxBowl x = CHECK.told(text);
        x.go(3);
        x.seat(0, 2);
        CHECK.due("bit", x.count(6) > 0, true);
        CHECK.due("told again", Check.tell(x, text), 5);
        for (int g = 0; g < 3; g++) {
            CHECK.due("seat by number", x.guest(g, 3), g);
            CHECK.due("there", x.guest(g, 4), 1);
            CHECK.due("bit nothing", x.guest(g, 6), 0);
        }
        CHECK.due("manners as told", x.guest(1, 0), 50);
        CHECK.due("hunger as told", x.guest(1, 1), 98);
        CHECK.due("no marks", x.marked(), 0);
        CHECK.due("nothing eaten", x.count(7), 0);
        CHECK.due("nothing fed", x.count(8), 0);
        CHECK.due("untouched", x.untouched(), 3);
    }

    /** Each text is told on the same object: nothing is left of those ahead, however full they were. */
    private static void textsAheadLeaveNothing() {
        String full = guests(6) + fruits(8) + "bite a 1;".repeat(8) + "near 5;cold 100;seed 99999;law praise 1;law shock 2;law dare "
                + "not ".repeat(61) + "1;";
        WaxBowl x = new WaxBowl();
        for (int round = 0; round < 3; round++) {
            for (int again = 0; again < 2; again++) {
                CHECK.due("full", Check.tell(x, full), 28);
                CHECK.due("64 knots", x.count(3), 64);
                CHECK.due("all hear all", x.guest(0, 5), 0b111110);
            }
            for (int again = 0; again < 2; again++) {
                CHECK.due("full, and a fault at the end", Check.tell(x, full + "guest"), NONE);
                CHECK.due("too much", x.fault(0), 2);
                CHECK.due("28 lines stay", x.count(2), 8);
            }
            for (int again = 0; again < 2; again++) {
                CHECK.due("no lines", x.text(0), 0);
                for (int what = 0; what <= 12; what++) {
                    CHECK.due("count(" + what + ")", x.count(what), 0);
                }
                CHECK.due("no cold", x.warm(1, 0), 1);
                CHECK.due("no name", x.named(0, Check.letters("a")), NONE);
            }
            CHECK.due("four", Check.tell(x, guests(4) + "fruit p 0 0;"), 5);
            CHECK.due("near 1", x.guest(0, 5), 0b1010);
            for (int law = 0; law < 3; law++) {
                CHECK.due("no law", x.law(law, 0, 0), Long.MIN_VALUE);
            }
            CHECK.due("no bite is told", x.count(2), 0);
            CHECK.due("with draughts", Check.tell(x, "guest a 99 0 0;cold 50;"), 2);
            x.go(13);
            CHECK.due("seed 0", x.guest(0, 1), hungerByNumbers(0));
        }
    }

    private static void faultOfWhat() {
        WaxBowl x = Busy.bowl();
        CHECK.due("fault(-1)", x.fault(-1), NONE);
        CHECK.due("fault(0)", x.fault(0), 3);
        CHECK.due("fault(1)", x.fault(1), 7);
        CHECK.due("fault(2)", x.fault(2), NONE);
        CHECK.due("fault(most)", x.fault(Integer.MAX_VALUE), NONE);
        CHECK.due("fault(least)", x.fault(Integer.MIN_VALUE), NONE);
        for (int what = -1; what <= 2; what++) {
            int asked = what;
            CHECK.stays("fault(" + what + ")", y -> y.fault(asked));
        }
        WaxBowl good = CHECK.told("near 1;");
        CHECK.due("without: fault(0)", good.fault(0), 0);
        CHECK.due("without: fault(1)", good.fault(1), NONE);
    }

    private static void faultOfTheLatestText() {
        WaxBowl x = new WaxBowl();
        CHECK.due("a fault", Check.tell(x, " near 9;"), NONE);
        CHECK.due("fault(0)", x.fault(0), 2);
        CHECK.due("fault(1)", x.fault(1), 6);
        CHECK.due("-2", x.text(1), -2);
        CHECK.due("fault(0) stays", x.fault(0), 2);
        CHECK.due("fault(1) stays", x.fault(1), 6);
        CHECK.due("another fault", Check.tell(x, "bite a 1;"), NONE);
        CHECK.due("its fault(0)", x.fault(0), 4);
        CHECK.due("its fault(1)", x.fault(1), 5);
        CHECK.due("none", Check.tell(x, "near 1;"), 1);
        CHECK.due("fault(0) is 0", x.fault(0), 0);
        CHECK.due("fault(1) is none", x.fault(1), NONE);
        CHECK.due("-2", x.text(-1), -2);
        CHECK.due("fault(0) stays 0", x.fault(0), 0);
    }

    private static void namedOfWhat() {
        int ann = Check.letters("ann");
        int fig = Check.letters("fig");
        CHECK.stays("named(-1, ann)", x -> x.named(-1, ann), NONE);
        CHECK.stays("named(0, ann)", x -> x.named(0, ann), 0);
        CHECK.stays("named(1, fig)", x -> x.named(1, fig), 0);
        CHECK.stays("named(2, ann)", x -> x.named(2, ann), NONE);
        CHECK.stays("named(0, fig)", x -> x.named(0, fig), NONE);
        CHECK.stays("named(1, ann)", x -> x.named(1, ann), NONE);
    }

    private static void namedByLetters() {
        String text = "guest a 1 1 1;guest aa 1 1 1;guest aaaaaa 1 1 1;guest zzzzzz 1 1 1;guest az 1 1 1;";
        WaxBowl x = CHECK.told(text);
        CHECK.due("a", x.named(0, 1 << 25), 0);
        CHECK.due("aa", x.named(0, 33 << 20), 1);
        CHECK.due("aaaaaa", x.named(0, 0x02108421), 2);
        CHECK.due("zzzzzz", x.named(0, 0x35ad6b5a), 3);
        CHECK.due("az", x.named(0, (1 << 5 | 26) << 20), 4);
        int[] none = {0, 1, -1, 1 << 25 | 1, 1 << 25 | 1 << 30, 1 << 25 | 1 << 31, 0x35ad6b5b, 0x35ad6b59, 0x02108420, 0x02108422,
            33, 2 << 25, 27 << 25, Integer.MIN_VALUE, Integer.MAX_VALUE};
        for (int letters : none) {
            CHECK.due("named(0, " + letters + ")", x.named(0, letters), NONE);
            CHECK.due("named(1, " + letters + ")", x.named(1, letters), NONE);
        }
        CHECK.due("of no text", new WaxBowl().named(0, 0), NONE);
        CHECK.due("of no text", new WaxBowl().named(1, 0), NONE);
    }

    public static void main(String[] args) {
        CHECK.test("A TEXT: { LINE ';' }: none is taken, an empty line isn't", TextEdgeTest::textWithoutLines);
        CHECK.test("Blanks 10, 32: every byte between tokens", TextEdgeTest::everyByteBetweenTokens);
        CHECK.test("Words: small letters: every byte as a name", TextEdgeTest::everyByteAsName);
        CHECK.test("N: digits: every byte as a number", TextEdgeTest::everyByteAsNumber);
        CHECK.test("Signs of E: every byte as one", TextEdgeTest::everyByteAsSign);
        CHECK.test("W: one of 1 .. 6 letters", TextEdgeTest::wordsOfOneToSixLetters);
        CHECK.test("W: none of those of the language", TextEdgeTest::namesAreNoneOfTheLanguage);
        CHECK.test("A = (or > behind <) right behind < or > belongs to it", TextEdgeTest::signsOfTwo);
        CHECK.test("FAULT 1: the length, if more must come", TextEdgeTest::moreMustCome);
        CHECK.test("FAULT 1: a TOKEN that can't stand there in a LINE", TextEdgeTest::everyTokenInEveryLine);
        CHECK.test("FAULT 1: a TOKEN that can't stand there in an E", TextEdgeTest::everyTokenInEveryE);
        CHECK.test("GUESTS, at most 6", TextEdgeTest::atMostSixGuests);
        CHECK.test("FRUITS, at most 8", TextEdgeTest::atMostEightFruits);
        CHECK.test("bite, at most 8", TextEdgeTest::atMostEightBites);
        CHECK.test("MANNERS 0 .. 99", () -> numberOf("guest a % 1 1;", 0, 99));
        CHECK.test("HUNGER 0 .. 98", () -> numberOf("guest a 1 % 1;", 0, 98));
        CHECK.test("WIT 0 .. 9", () -> numberOf("guest a 1 1 %;", 0, 9));
        CHECK.test("SWEET 0 .. 9", () -> numberOf("fruit a % 1;", 0, 9));
        CHECK.test("REAL 0 .. 1", () -> numberOf("fruit a 1 %;", 0, 1));
        CHECK.test("a GUEST at a STEP 0 .. 99", () -> numberOf("guest a 1 1 1;bite a %;", 0, 99));
        CHECK.test("near: 1 .. 5", () -> numberOf("near %;", 1, 5));
        CHECK.test("cold: of a hundred 0 .. 100", () -> numberOf("cold %;", 0, 100));
        CHECK.test("seed: 0 .. 99999", () -> numberOf("seed %;", 0, 99999));
        CHECK.test("N of E 0 .. 9999", TextEdgeTest::lawNumbers);
        CHECK.test("MANNERS, HUNGER, WIT at their bounds are kept", TextEdgeTest::guestNumbersHold);
        CHECK.test("SWEET, REAL at their bounds are kept", TextEdgeTest::fruitNumbersHold);
        CHECK.test("bites at STEP 0 and 99 come", TextEdgeTest::biteStepsHold);
        CHECK.test("near 1 .. 5 (1 without) is how far one hears", TextEdgeTest::nearHolds);
        CHECK.test("cold 0 .. 100 (0) is kept", TextEdgeTest::coldHolds);
        CHECK.test("seed 0 .. 99999 (0) is the first number", TextEdgeTest::seedHolds);
        CHECK.test("a ninth '(' open", TextEdgeTest::eightOpen);
        CHECK.test("a 65th KNOT of all E", TextEdgeTest::sixtyFourKnots);
        CHECK.test("FAULTS, the first along the text", TextEdgeTest::theFirstFaultAlongTheText);
        CHECK.test("FAULTS, of one place the least", TextEdgeTest::ofOnePlaceTheLeast);
        CHECK.test("FAULT 3 told already", TextEdgeTest::toldAlready);
        CHECK.test("FAULT 4 a GUEST that isn't told ahead", TextEdgeTest::notToldAhead);
        CHECK.test("1: a TEXT without LINES, an empty TAPE", TextEdgeTest::newObject);
        CHECK.test("2: NONE, and none come, if it would have more than 700", TextEdgeTest::tapeOfSevenHundred);
        CHECK.test("2, 3: a TAPE of 700 is read to its end", TextEdgeTest::fullTapeIsRead);
        CHECK.test("2: four of each number, the highest first", TextEdgeTest::bytesOfFeed);
        CHECK.test("3: -2, and the TAPE stays: not so many, below 0", TextEdgeTest::textOfSoManyBytes);
        CHECK.test("3: a TEXT begins anew, nothing is left", TextEdgeTest::textBeginsAnew);
        CHECK.test("3: a TEXT begins anew, told the same", TextEdgeTest::textAnewOfTheSame);
        CHECK.test("3: a TEXT begins anew, behind full ones and empty ones", TextEdgeTest::textsAheadLeaveNothing);
        CHECK.test("4: NONE for another what", TextEdgeTest::faultOfWhat);
        CHECK.test("4: of the latest text() that was not -2", TextEdgeTest::faultOfTheLatestText);
        CHECK.test("5: a GUEST (what 0), FRUIT (1), no other", TextEdgeTest::namedOfWhat);
        CHECK.test("5: NONE: there is none such", TextEdgeTest::namedByLetters);
        CHECK.end();
    }
}
