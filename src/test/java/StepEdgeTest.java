/** The edges of a STEP and of VALUES (the part marked ==== 2): round the table, 0 at least, 0 .. 99, 99 at least, 10 to the 12. */
public final class StepEdgeTest {
    private static final Check CHECK = new Check("StepEdgeTest");

    /** Guests a, b, .. with these numbers. */
    private static String guests(int n, String numbers) {
        StringBuilder text = new StringBuilder();
        for (int g = 0; g < n; g++) {
            text.append("guest ").append((char) ('a' + g)).append(' ').append(numbers).append(';');
        }
        return text.toString();
    }

    private static String fruits(int n) {
        StringBuilder text = new StringBuilder();
        for (int f = 0; f < n; f++) {
            text.append("fruit ").append((char) ('a' + f)).append(" 0 0;");
        }
        return text.toString();
    }

    private static void seatsByNumbers() {
        for (int n = 1; n <= 6; n++) {
            WaxBowl x = CHECK.told(guests(n, "99 0 0"));
            for (int g = 0; g < n; g++) {
                CHECK.due("seat of " + g + " of " + n, x.guest(g, 3), g);
            }
            CHECK.due("no more", Check.thrownByGuest(x, n, 3), 1);
        }
    }

    private static void hearingTheShorterWay() {
        for (int n = 1; n <= 6; n++) {
            for (int near = 1; near <= 5; near++) {
                WaxBowl x = CHECK.told(guests(n, "99 0 0") + "near " + near + ";");
                for (int g = 0; g < n; g++) {
                    int bits = 0;
                    for (int far = 1; far <= near; far++) {
                        bits |= 1 << (g + far) % n | 1 << (g - far + 5 * n) % n;
                    }
                    CHECK.due("who hear " + g + " of " + n + ", near " + near, x.guest(g, 5), bits & ~(1 << g));
                }
            }
        }
    }

    private static void hearingAtTheBoundOfNear() {
        WaxBowl x = CHECK.told(guests(6, "99 50 5") + "fruit p 0 0;near 2;");
        x.go(1);
        int[] hunger = {51, 46, 46, 51, 46, 46};
        for (int g = 0; g < 6; g++) {
            CHECK.due("praise at 2 seats, not at 3: " + g, x.guest(g, 1), hunger[g]);
        }
        WaxBowl bitten = CHECK.told(guests(6, "99 50 5") + "fruit p 0 0;near 2;bite a 0;");
        bitten.go(1);
        int[] manners = {99, 89, 89, 99, 89, 89};
        for (int g = 0; g < 6; g++) {
            CHECK.due("shock at 2 seats, not at 3: " + g, bitten.guest(g, 0), manners[g]);
        }
    }

    private static void whoFaintedDoesNotHear() {
        WaxBowl x = CHECK.told("guest a 99 0 9;guest b 99 98 9;guest c 99 0 9;guest d 99 50 9;fruit p 9 0;law praise (step > 0) * 20;");
        x.go(1);
        CHECK.due("b fainted", x.guest(1, 4), 0);
        CHECK.due("who hear a", x.guest(0, 5), 0b1000);
        CHECK.due("who hear b", x.guest(1, 5), 0);
        CHECK.due("b's seat is empty", x.bowl(), -2);
        x.go(2);
        CHECK.due("c praises, b isn't fed", x.guest(1, 1), 99);
        CHECK.due("d is", x.guest(3, 1), 50 + 3 - 20);
        CHECK.due("d alone was fed", x.count(8), 20);
    }

    private static void stepModuloSeatsAndFruits() {
        for (int n = 1; n <= 6; n++) {
            for (int f = 1; f <= 8; f++) {
                WaxBowl x = CHECK.told(guests(n, "99 0 0") + fruits(f));
                for (int step = 0; step <= 25; step++) {
                    CHECK.due("bowl of " + n + " at " + step, x.bowl(), step % n);
                    CHECK.due("uppermost of " + f + " at " + step, x.uppermost(), step % f);
                    x.go(1);
                }
            }
        }
    }

    private static void withoutFruits() {
        WaxBowl x = CHECK.told("guest a 0 50 9;guest b 99 50 9;bite a 0;bite b 1;law dare 1;law praise 9;");
        x.go(2);
        CHECK.due("no bite", x.count(6), 0);
        CHECK.due("no praise", x.count(8), 0);
        CHECK.due("hunger", x.guest(0, 1), 52);
        CHECK.due("no shock", x.guest(1, 0), 99);
        CHECK.due("step", x.count(4), 2);
    }

    private static void withTheSeatEmpty() {
        WaxBowl x = CHECK.told("guest a 99 98 9;guest b 99 50 9;guest c 99 50 9;fruit p 9 0;bite a 3;law praise (step > 0) * 9;");
        x.go(1);
        CHECK.due("a fainted", x.guest(0, 4), 0);
        x.go(2);
        int fed = x.count(8);
        CHECK.due("seat 0 is empty", x.bowl(), -2);
        x.go(1);
        CHECK.due("it was told to bite, but isn't there", x.count(6), 0);
        CHECK.due("nobody praises", x.count(8), fed);
        CHECK.due("next one", x.bowl(), 1);
    }

    private static void toldBites() {
        String two = "guest a 99 0 9;guest b 99 0 9;fruit p 9 0;";
        for (int step : new int[] {0, 1, 2, 98, 99}) {
            String who = step % 2 == 0 ? "a" : "b";
            String other = step % 2 == 0 ? "b" : "a";
            WaxBowl x = CHECK.told(two + "bite " + who + " " + step + ";");
            CHECK.due("not ahead of " + step, x.ahead(step, 0, 0), 0);
            CHECK.due("at " + step, x.ahead(step + 1, 0, 0), 1);
            CHECK.due("not behind " + step, x.ahead(200, 0, 0), 1);
            CHECK.due("the other one isn't at the bowl", CHECK.told(two + "bite " + other + " " + step + ";").ahead(200, 0, 0), 0);
            CHECK.due("dare 0 doesn't matter", CHECK.told(two + "law dare 0;bite " + who + " " + step + ";").ahead(200, 0, 0), 1);
        }
        CHECK.due("told twice it bites once", CHECK.told(two + "bite a 4;bite a 4;").ahead(200, 0, 0), 1);
        CHECK.due("eight bites", CHECK.told(two + "bite a 0;bite b 1;bite a 2;bite b 3;bite a 4;bite b 5;bite a 6;bite b 7;")
                .ahead(200, 0, 0), 8);
    }

    private static int bitesOfFirst(String numbers, String laws) {
        WaxBowl x = CHECK.told("guest a " + numbers + ";fruit p 0 0;" + laws);
        x.go(1);
        return x.guest(0, 6);
    }

    private static void dareIsNotZero() {
        CHECK.due("0", bitesOfFirst("0 98 0", "law dare 0;"), 0);
        CHECK.due("1", bitesOfFirst("99 0 0", "law dare 1;"), 1);
        CHECK.due("-1", bitesOfFirst("99 0 0", "law dare 0-1;"), 1);
        CHECK.due("9999", bitesOfFirst("99 0 0", "law dare 9999;"), 1);
        CHECK.due("2 to the 32", bitesOfFirst("99 0 0", "law dare 4096*4096*256;"), 1);
        CHECK.due("10 to the 12", bitesOfFirst("99 0 0", "law dare 1000*1000*1000*1000;"), 1);
        CHECK.due("less than 1, cut", bitesOfFirst("0 98 0", "law dare 1/2;"), 0);
    }

    private static void hungerIsMoreThanManners() {
        String[] laws = {"", "law dare 1/0;", "law dare 1000*1000*1000*1000+1;"};
        for (String law : laws) {
            CHECK.due("less: " + law, bitesOfFirst("50 49 0", law), 0);
            CHECK.due("as much: " + law, bitesOfFirst("50 50 0", law), 0);
            CHECK.due("more: " + law, bitesOfFirst("50 51 0", law), 1);
            CHECK.due("0 and 0: " + law, bitesOfFirst("0 0 0", law), 0);
            CHECK.due("0 and 1: " + law, bitesOfFirst("0 1 0", law), 1);
            CHECK.due("97 and 98: " + law, bitesOfFirst("97 98 0", law), 1);
            CHECK.due("98 and 98: " + law, bitesOfFirst("98 98 0", law), 0);
        }
    }

    private static void biteOfRealAndWax() {
        String two = "guest a 0 50 0;guest b 99 0 0;";
        WaxBowl wax = CHECK.told(two + "fruit p 0 0;");
        wax.go(1);
        CHECK.due("wax: hunger stays", wax.guest(0, 1), 51);
        CHECK.due("wax isn't eaten", wax.fruit(0, 2), 0);
        CHECK.due("wax: a mark", wax.fruit(0, 3), 1);
        WaxBowl real = CHECK.told(two + "fruit p 0 1;bite a 2;");
        real.go(1);
        CHECK.due("real: hunger is 0", real.guest(0, 1), 1);
        CHECK.due("eaten", real.fruit(0, 2), 1);
        CHECK.due("real: a mark", real.fruit(0, 3), 1);
        real.go(2);
        CHECK.due("eaten already: hunger stays", real.guest(0, 1), 3);
        CHECK.due("eaten still", real.fruit(0, 2), 1);
        CHECK.due("two marks", real.fruit(0, 3), 2);
        CHECK.due("one was eaten", real.count(7), 1);
    }

    /** Manners of b when a bit. */
    private static int mannersBehindShock(int manners, String law) {
        WaxBowl x = CHECK.told("guest a 99 0 0;guest b " + manners + " 0 0;fruit p 0 0;bite a 0;" + law);
        x.go(1);
        return x.guest(1, 0);
    }

    private static void mannersAreZeroAtLeast() {
        int[] manners = {0, 1, 9, 10, 11, 99};
        int[] due = {0, 0, 0, 0, 1, 89};
        for (int i = 0; i < manners.length; i++) {
            CHECK.due("10 less of " + manners[i], mannersBehindShock(manners[i], ""), due[i]);
            CHECK.due("with an error of " + manners[i], mannersBehindShock(manners[i], "law shock 1/0;"), due[i]);
            CHECK.due("with a value too big of " + manners[i],
                    mannersBehindShock(manners[i], "law shock 1000*1000*1000*1000*2;"), due[i]);
        }
        CHECK.due("7 less of 6", mannersBehindShock(6, "law shock 7;"), 0);
        CHECK.due("7 less of 7", mannersBehindShock(7, "law shock 7;"), 0);
        CHECK.due("7 less of 8", mannersBehindShock(8, "law shock 7;"), 1);
    }

    private static void shockIsWithin99() {
        String[] laws = {"0-9999", "0-1", "0", "1", "98", "99", "100", "9999", "1000*1000*1000*1000", "0-1000*1000*1000*1000",
            "4096*4096*256", "4096*4096*256+1"};
        int[] due = {99, 99, 99, 98, 1, 0, 0, 0, 0, 99, 0, 0};
        for (int i = 0; i < laws.length; i++) {
            CHECK.due("shock " + laws[i], mannersBehindShock(99, "law shock " + laws[i] + ";"), due[i]);
        }
    }

    /** Hunger of b when a has praised, of which one more is taken back. */
    private static int hungerBehindPraise(int wit, int hunger, int sweet, String law) {
        WaxBowl x = CHECK.told("guest a 99 0 " + wit + ";guest b 99 " + hunger + " 0;fruit p " + sweet + " 0;" + law);
        x.go(1);
        CHECK.due("what was fed", x.fruit(0, 4), hunger - (x.guest(1, 1) - 1));
        return x.guest(1, 1) - 1;
    }

    private static void hungerIsZeroAtLeast() {
        CHECK.due("18 less of 98", hungerBehindPraise(9, 98, 9, ""), 80);
        CHECK.due("5 less of 4", hungerBehindPraise(2, 4, 3, ""), 0);
        CHECK.due("5 less of 5", hungerBehindPraise(2, 5, 3, ""), 0);
        CHECK.due("5 less of 6", hungerBehindPraise(2, 6, 3, ""), 1);
        CHECK.due("5 less of 0", hungerBehindPraise(2, 0, 3, ""), 0);
        CHECK.due("nothing less", hungerBehindPraise(0, 6, 0, ""), 6);
        CHECK.due("with an error", hungerBehindPraise(2, 6, 3, "law praise 1/0;"), 1);
        CHECK.due("with a value too big", hungerBehindPraise(2, 6, 3, "law praise 1000*1000*1000*1000+1;"), 1);
        CHECK.due("with a value too small", hungerBehindPraise(2, 6, 3, "law praise 0-1000*1000*1000*1000-1;"), 1);
    }

    private static void praiseIsWithin99() {
        String[] laws = {"0-9999", "0-1", "0", "1", "97", "98", "99", "100", "9999", "1000*1000*1000*1000", "0-1000*1000*1000*1000",
            "4096*4096*256", "4096*4096*256+1"};
        int[] due = {98, 98, 98, 97, 1, 0, 0, 0, 0, 0, 98, 0, 0};
        for (int i = 0; i < laws.length; i++) {
            CHECK.due("praise " + laws[i], hungerBehindPraise(5, 98, 5, "law praise " + laws[i] + ";"), due[i]);
        }
    }

    private static void witAndSweetLessMarks() {
        String two = "guest a 99 0 1;guest b 99 50 1;guest c 99 0 0;fruit p 1 0;law dare step < ";
        // So many steps are bites; then the next one praises, by WIT 1 and SWEET 1 less the marks.
        int[] marks = {0, 3};
        int[] fed = {2, 0};
        for (int i = 0; i < marks.length; i++) {
            WaxBowl x = CHECK.told(two + marks[i] + ";");
            x.go(marks[i]);
            CHECK.due("marks", x.fruit(0, 3), marks[i]);
            x.go(1);
            CHECK.due("fed with marks " + marks[i], x.count(8), fed[i]);
            CHECK.due("hunger of b", x.guest(1, 1), 50 + marks[i] + 1 - fed[i]);
        }
        String alone = "guest a 99 0 %;guest b 99 50 0;fruit p 1 0;bite a 0;bite b 1;bite a 2;bite b 3;";
        for (int wit = 2; wit <= 5; wit++) {
            WaxBowl x = CHECK.told(alone.replace("%", "" + wit));
            x.go(4);
            CHECK.due("four marks", x.fruit(0, 3), 4);
            CHECK.due("nothing fed yet", x.count(8), 0);
            x.go(1);
            CHECK.due("wit " + wit + " and 1 less 4", x.count(8), Math.max(0, wit + 1 - 4));
        }
    }

    private static void fedInSum() {
        WaxBowl x = CHECK.told("guest a 99 0 5;guest b 99 3 0;guest c 99 50 0;fruit p 0 0;fruit q 0 0;");
        x.go(1);
        CHECK.due("3 and 5", x.fruit(0, 4), 8);
        CHECK.due("of this fruit alone", x.fruit(1, 4), 0);
        x.go(2);
        CHECK.due("no more by wit 0", x.count(8), 8);
    }

    /** Hunger behind one step, 1000 more if the guest fainted. */
    private static int behindOneStep(int hunger, String cold) {
        WaxBowl x = CHECK.told("guest a 99 " + hunger + " 0;" + cold);
        x.go(1);
        return x.guest(0, 1) + 1000 * (1 - x.guest(0, 4));
    }

    private static void faintingAt99() {
        CHECK.due("97", behindOneStep(97, ""), 98);
        CHECK.due("98", behindOneStep(98, ""), 1099);
        CHECK.due("95 with a draught", behindOneStep(95, "cold 100;"), 98);
        CHECK.due("96 with a draught", behindOneStep(96, "cold 100;"), 1099);
        CHECK.due("97 with a draught", behindOneStep(97, "cold 100;"), 1100);
        CHECK.due("98 with a draught", behindOneStep(98, "cold 100;"), 1101);
        WaxBowl fed = CHECK.told("guest a 99 0 1;guest b 99 98 0;fruit p 0 0;");
        fed.go(1);
        CHECK.due("fed by 1 it doesn't", fed.guest(1, 4), 1);
        CHECK.due("98", fed.guest(1, 1), 98);
        WaxBowl gone = CHECK.told("guest a 99 98 1;guest b 99 0 0;cold 100;");
        gone.go(30);
        CHECK.due("hunger stays", gone.guest(0, 1), 101);
        CHECK.due("of who is there it grows", gone.guest(1, 1), 90);
    }

    private static void aRealBiteAheadOfFainting() {
        WaxBowl x = CHECK.told("guest a 97 98 0;fruit p 0 1;");
        x.go(1);
        CHECK.due("it ate", x.guest(0, 1), 1);
        CHECK.due("there", x.guest(0, 4), 1);
        WaxBowl late = CHECK.told("guest a 99 98 0;fruit p 0 1;");
        late.go(1);
        CHECK.due("98 isn't more than 99: it faints", late.guest(0, 4), 0);
    }

    private static void numbersBelowCold() {
        // From seed 0 the first number is 0, the second one 21468, the third one 9988: modulo 100 it is 0, 68, 88.
        long number = 0;
        int[] due = {0, 68, 88};
        for (int i = 0; i < 3; i++) {
            number = (number * 1103515245L + 12345L) % 2147483648L;
            CHECK.due("number " + i, number / 65536 % 100, due[i]);
        }
        int[] colds = {0, 1, 67, 68, 69, 87, 88, 89, 99, 100};
        for (int cold : colds) {
            WaxBowl x = CHECK.told(guests(3, "99 0 0") + "cold " + cold + ";");
            x.go(1);
            for (int g = 0; g < 3; g++) {
                CHECK.due("guest " + g + ", cold " + cold, x.guest(g, 1), due[g] < cold ? 3 : 1);
            }
        }
    }

    private static void numbersOfThirtyOneBits() {
        long number = 99999;
        WaxBowl x = CHECK.told("guest a 99 0 0;guest b 99 0 0;cold 50;seed 99999;");
        int[] hunger = new int[2];
        for (int step = 0; step < 30; step++) {
            for (int g = 0; g < 2; g++) {
                number = number * 1103515245L + 12345L & 0x7fffffffL;
                hunger[g] += number / 65536 % 100 < 50 ? 3 : 1;
            }
            x.go(1);
            CHECK.due("hunger of a at " + step, x.guest(0, 1), hunger[0]);
            CHECK.due("hunger of b at " + step, x.guest(1, 1), hunger[1]);
        }
    }

    private static void numbersByGuestsThatAreThere() {
        WaxBowl x = CHECK.told("guest a 99 0 0;guest b 99 0 0;guest c 99 0 0;cold 68;");
        x.seat(0, 2);
        x.go(1);
        CHECK.due("by numbers, not by seats: a has 0", x.guest(0, 1), 3);
        CHECK.due("b has 68", x.guest(1, 1), 1);
        CHECK.due("c has 88", x.guest(2, 1), 1);
        WaxBowl one = CHECK.told("guest a 99 98 0;guest b 99 0 0;cold 68;");
        one.go(2);
        CHECK.due("a has 0 and faints", one.guest(0, 1), 101);
        CHECK.due("b has 68, then 88", one.guest(1, 1), 2);
    }

    private static void asItGoesFromFiftyOn() {
        int[] colds = {0, 1, 49, 50, 51, 99, 100};
        for (int cold : colds) {
            WaxBowl x = CHECK.told("guest a 99 0 0;cold " + cold + ";");
            CHECK.due("cold " + cold, x.ahead(1, 2, 0), cold >= 50 ? 3 : 1);
            CHECK.due("swoon, cold " + cold, x.swoon(0), cold >= 50 ? 33 : 99);
        }
        WaxBowl x = CHECK.told("guest a 99 0 0;cold 50;");
        x.ahead(200, 2, 0);
        x.go(1);
        CHECK.due("it takes no numbers: the first one is 0", x.guest(0, 1), 3);
        x.ahead(200, 2, 0);
        x.go(1);
        CHECK.due("the second one is 68", x.guest(0, 1), 4);
    }

    private static long value(String e) {
        return CHECK.told("guest a 61 22 3;guest b 44 33 9;fruit p 4 0;fruit q 7 0;law dare " + e + ";").law(1, 0, 0);
    }

    private static void valuesToTenToTheTwelve() {
        String most = "1000*1000*1000*1000";
        CHECK.due("10 to the 12", value(most), 1000000000000L);
        CHECK.due("one less", value(most + "-1"), 999999999999L);
        CHECK.due("one more", value(most + "+1"), Long.MIN_VALUE);
        CHECK.due("one more and back", value(most + "+1-1"), Long.MIN_VALUE);
        CHECK.due("and nothing", value(most + "+0"), 1000000000000L);
        CHECK.due("by 1", value(most + "/1"), 1000000000000L);
        CHECK.due("times 1", value(most + "*1"), 1000000000000L);
        CHECK.due("times 2", value(most + "*2"), Long.MIN_VALUE);
        CHECK.due("twice", value(most + "+" + most), Long.MIN_VALUE);
        CHECK.due("times itself", value("(" + most + ")*(" + most + ")"), Long.MIN_VALUE);
        CHECK.due("a comparison of what is too much", value(most + "+1 > 0"), Long.MIN_VALUE);
        CHECK.due("not of what is too much", value("not " + most + "*2"), Long.MIN_VALUE);
    }

    private static void valuesToTenToTheTwelveBelow() {
        String least = "(0-1000*1000*1000*1000)";
        CHECK.due("10 to the 12 below", value(least), -1000000000000L);
        CHECK.due("one nearer", value(least + "+1"), -999999999999L);
        CHECK.due("one farther", value(least + "-1"), Long.MIN_VALUE);
        CHECK.due("one farther and back", value(least + "-1+1"), Long.MIN_VALUE);
        CHECK.due("times 1", value(least + "*1"), -1000000000000L);
        CHECK.due("times -1", value(least + "*(0-1)"), 1000000000000L);
        CHECK.due("by -1", value(least + "/(0-1)"), 1000000000000L);
        CHECK.due("times 2", value(least + "*2"), Long.MIN_VALUE);
        CHECK.due("times itself", value(least + "*" + least), Long.MIN_VALUE);
        CHECK.due("10 to the 6 twice below", value("(0-1000*1000)*(0-1000*1000)"), 1000000000000L);
        CHECK.due("10 to the 6 and one more", value("(0-1000*1000)*(0-1000*1000-1)"), Long.MIN_VALUE);
        CHECK.due("2 to the 64 isn't 0", value("(4096*4096*256)*(4096*4096*256)"), Long.MIN_VALUE);
    }

    private static void dividing() {
        String[] texts = {"7/2", "(0-7)/2", "7/(0-2)", "(0-7)/(0-2)", "1/2", "(0-1)/2", "6/3", "(0-6)/3", "0/5", "0/(0-5)", "9999/9999",
            "9998/9999"};
        long[] values = {3, -3, -3, 3, 0, 0, 2, -2, 0, 0, 1, 0};
        for (int i = 0; i < texts.length; i++) {
            CHECK.due(texts[i], value(texts[i]), values[i]);
        }
        String[] errors = {"1/0", "0/0", "(0-1)/0", "1/(1-1)", "1/(1/2)", "1/(2<1)", "5-1/0", "1/0*0"};
        for (String e : errors) {
            CHECK.due(e, value(e), Long.MIN_VALUE);
        }
    }

    private static void comparing() {
        String[] signs = {"<", "<=", "=", "<>", ">=", ">"};
        int[][] due = {{1, 0, 0}, {1, 1, 0}, {0, 1, 0}, {1, 0, 1}, {0, 1, 1}, {0, 0, 1}};
        for (int s = 0; s < signs.length; s++) {
            for (int i = 0; i < 3; i++) {
                CHECK.due(4 + i + signs[s] + 5, value((4 + i) + signs[s] + 5), due[s][i]);
                CHECK.due("below 0: " + signs[s], value("0-" + (6 - i) + signs[s] + "0-5"), due[s][i]);
            }
        }
    }

    private static void notAndOr() {
        String[] zero = {"0", "1-1", "1/2", "1>2"};
        String[] other = {"1", "2", "0-1", "9999", "1000*1000*1000*1000", "4096*4096*256", "1<2"};
        for (String z : zero) {
            CHECK.due("not " + z, value("not (" + z + ")"), 1);
            for (String o : other) {
                CHECK.due("not " + o, value("not (" + o + ")"), 0);
                CHECK.due(z + " or " + o, value("(" + z + ") or (" + o + ")"), 1);
                CHECK.due(o + " or " + z, value("(" + o + ") or (" + z + ")"), 1);
                CHECK.due(z + " and " + o, value("(" + z + ") and (" + o + ")"), 0);
                CHECK.due(o + " and " + z, value("(" + o + ") and (" + z + ")"), 0);
                CHECK.due(o + " and " + o, value("(" + o + ") and (" + o + ")"), 1);
            }
            CHECK.due(z + " or " + z, value("(" + z + ") or (" + z + ")"), 0);
        }
        for (String e : new String[] {"1 or 1/0", "0 and 1/0", "1/0 or 1", "1/0 and 0", "not 1/0"}) {
            CHECK.due("both sides are worked out: " + e, value(e), Long.MIN_VALUE);
        }
    }

    private static void bindingTighter() {
        String[] texts = {"1 or 0 and 0", "(1 or 0) and 0", "0 and 0 or 1", "0 and (0 or 1)", "not 1 or 1", "not (1 or 1)", "not 0 and 0",
            "not (0 and 0)", "not 1 = 2", "(not 1) = 2", "not 0 + 1", "(not 0) + 1", "1 + 1 < 2", "1 + (1 < 2)", "2 + 3 * 4", "(2 + 3) * 4",
            "9 - 4 - 3", "9 - (4 - 3)", "8 / 4 / 2", "8 / (4 / 2)", "9 - 6 / 3", "2 * 7 / 4", "2 * (7 / 4)", "not not 7"};
        long[] values = {1, 0, 1, 0, 1, 0, 0, 1, 1, 0, 0, 2, 0, 2, 14, 20, 2, 8, 1, 4, 7, 3, 2, 1};
        CHECK.due("as many", texts.length, values.length);
        for (int i = 0; i < values.length; i++) {
            CHECK.due(texts[i], value(texts[i]), values[i]);
        }
    }

    private static void namesAtTheirBounds() {
        WaxBowl x = CHECK.told("guest a 0 98 0;guest b 99 0 9;fruit p 0 1;fruit q 9 0;law praise manner*1000+hunger;"
                + "law dare wit*1000+sweet;law shock there*1000+step*10+marks;");
        CHECK.due("manner 0, hunger 98", x.law(0, 0, 0), 98);
        CHECK.due("manner 99, hunger 0", x.law(0, 1, 0), 99000);
        CHECK.due("wit 0, sweet 0", x.law(1, 0, 0), 0);
        CHECK.due("wit 9, sweet 9", x.law(1, 1, 1), 9009);
        CHECK.due("there 2, step 0, marks 0", x.law(2, 0, 0), 2000);
        x.go(1);
        CHECK.due("there 1, as a fainted, step 1", x.law(2, 0, 1), 1010);
    }

    private static void marksOfShock() {
        WaxBowl x = CHECK.told("guest a 99 0 0;guest b 99 0 0;fruit p 0 0;bite a 0;bite a 2;law shock marks;law praise 0;");
        x.go(1);
        CHECK.due("this one, too: 1", x.guest(1, 0), 98);
        CHECK.due("asked by law: as they are", x.law(2, 1, 0), 1);
        x.go(2);
        CHECK.due("then 2", x.guest(1, 0), 96);
    }

    public static void main(String[] args) {
        CHECK.test("SEATS 0, 1 .. (at first by numbers), as many as were told", StepEdgeTest::seatsByNumbers);
        CHECK.test("their SEATS are no more than near apart, the shorter way round", StepEdgeTest::hearingTheShorterWay);
        CHECK.test("no more than near: praise and shock reach so far", StepEdgeTest::hearingAtTheBoundOfNear);
        CHECK.test("One HEARS another one, if both are THERE", StepEdgeTest::whoFaintedDoesNotHear);
        CHECK.test("the SEAT, the FRUIT that is STEP modulo how many there are", StepEdgeTest::stepModuloSeatsAndFruits);
        CHECK.test("without FRUITS (2) and (3) are left out", StepEdgeTest::withoutFruits);
        CHECK.test("with the SEAT empty (2) and (3) are left out", StepEdgeTest::withTheSeatEmpty);
        CHECK.test("who sits there BITES, if that was told for this STEP", StepEdgeTest::toldBites);
        CHECK.test("or E of dare isn't 0", StepEdgeTest::dareIsNotZero);
        CHECK.test("HUNGER is more than MANNERS without, with an ERROR", StepEdgeTest::hungerIsMoreThanManners);
        CHECK.test("if it is REAL and isn't EATEN, it is EATEN and HUNGER is 0", StepEdgeTest::biteOfRealAndWax);
        CHECK.test("MANNERS less by shock (10 without, with an ERROR), 0 at least", StepEdgeTest::mannersAreZeroAtLeast);
        CHECK.test("E of shock 0 .. 99", StepEdgeTest::shockIsWithin99);
        CHECK.test("HUNGER less by praise, 0 at least", StepEdgeTest::hungerIsZeroAtLeast);
        CHECK.test("E of praise 0 .. 99", StepEdgeTest::praiseIsWithin99);
        CHECK.test("WIT and SWEET less MARKS, 0 at least", StepEdgeTest::witAndSweetLessMarks);
        CHECK.test("how much less it is in sum, is what the FRUIT FED", StepEdgeTest::fedInSum);
        CHECK.test("all who are THERE with HUNGER 99 at least FAINT (HUNGER stays)", StepEdgeTest::faintingAt99);
        CHECK.test("a bite comes ahead of fainting", StepEdgeTest::aRealBiteAheadOfFainting);
        CHECK.test("2 more if a number modulo 100 is below cold", StepEdgeTest::numbersBelowCold);
        CHECK.test("numbers without what is above 31 bits", StepEdgeTest::numbersOfThirtyOneBits);
        CHECK.test("by numbers each GUEST that is THERE", StepEdgeTest::numbersByGuestsThatAreThere);
        CHECK.test("AS IT GOES: all feel a draught, if cold is 50 at least", StepEdgeTest::asItGoesFromFiftyOn);
        CHECK.test("ERROR: a value above 10 to the 12", StepEdgeTest::valuesToTenToTheTwelve);
        CHECK.test("ERROR: below 0 by more than that", StepEdgeTest::valuesToTenToTheTwelveBelow);
        CHECK.test("/ is cut towards 0; ERROR: / by 0", StepEdgeTest::dividing);
        CHECK.test("comparisons are 1 or 0", StepEdgeTest::comparing);
        CHECK.test("what isn't 0 is as 1, both sides are worked out", StepEdgeTest::notAndOr);
        CHECK.test("E: or, and, not, comparisons, + -, * /: each binds tighter", StepEdgeTest::bindingTighter);
        CHECK.test("NAMES at their bounds", StepEdgeTest::namesAtTheirBounds);
        CHECK.test("marks: its MARKS (of shock this one, too)", StepEdgeTest::marksOfShock);
        CHECK.end();
    }
}
