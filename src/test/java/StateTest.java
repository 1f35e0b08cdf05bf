/** Promises 6 to 12, 23 to 27, 32, 34, 44: what is now, what is done by call, what a step does. */
public final class StateTest {
    private static final Check CHECK = new Check("StateTest");
    private static final String FOUR = "guest a 50 10 2;guest b 50 20 3;guest c 50 30 4;guest d 50 40 5;fruit p 5 0;";
    private static final String BITERS = "guest a 50 60 2;guest b 50 20 3;guest c 5 0 1;fruit p 5 1;";

    private static void guests() {
        WaxBowl x = CHECK.told(FOUR);
        CHECK.due("manners", x.guest(0, 0), 50);
        CHECK.due("hunger", x.guest(1, 1), 20);
        CHECK.due("wit", x.guest(2, 2), 4);
        CHECK.due("seat", x.guest(3, 3), 3);
        CHECK.due("there", x.guest(0, 4), 1);
        CHECK.due("who hear it", x.guest(0, 5), 0b1010);
        CHECK.due("who hear it", x.guest(2, 5), 0b1010);
        CHECK.due("bit", x.guest(0, 6), 0);
        CHECK.due("below", Check.thrownByGuest(x, -1, 0), 1);
        CHECK.due("beyond", Check.thrownByGuest(x, 4, 0), 1);
        CHECK.due("neither guest nor what", Check.thrownByGuest(x, 4, 9), 1);
        CHECK.due("no such what", Check.thrownByGuest(x, 3, 7), 2);
        CHECK.due("no such what", Check.thrownByGuest(x, 0, -1), 2);
        CHECK.due("far beyond", Check.thrownByGuest(x, Integer.MIN_VALUE, Integer.MAX_VALUE), 1);
        WaxBowl y = CHECK.told("near 2;" + FOUR + "guest e 50 98 1;guest f 50 0 1;");
        CHECK.due("two seats far", y.guest(0, 5), 0b110110);
        CHECK.due("go", y.go(1), 1);
        CHECK.due("two seats far it is fed", y.guest(4, 1), 92);
        CHECK.due("three seats far it isn't", y.guest(3, 1), 41);
    }

    private static void hearing() {
        WaxBowl x = CHECK.told("guest a 99 98 0;guest b 99 0 0;guest c 99 0 0;guest d 99 0 0;");
        CHECK.due("ahead of it", x.guest(1, 5), 0b0101);
        x.go(1);
        CHECK.due("who fainted isn't heard", x.guest(0, 5), 0);
        CHECK.due("who fainted doesn't hear", x.guest(1, 5), 0b0100);
        CHECK.due("hunger stays", x.guest(0, 1), 99);
        x.go(5);
        CHECK.due("hunger still stays", x.guest(0, 1), 99);
        CHECK.due("of the others it grows", x.guest(1, 1), 6);
        CHECK.due("one alone hears nobody", CHECK.told("guest a 1 1 1;near 5;").guest(0, 5), 0);
    }

    private static void praising() {
        WaxBowl x = CHECK.told(FOUR);
        CHECK.due("bowl", x.bowl(), 0);
        CHECK.due("go", x.go(1), 1);
        int[] first = {11, 14, 31, 34};
        for (int g = 0; g < 4; g++) {
            CHECK.due("hunger of " + g, x.guest(g, 1), first[g]);
        }
        CHECK.due("fed", x.fruit(0, 4), 14);
        CHECK.due("bowl", x.bowl(), 1);
        CHECK.due("go", x.go(1), 2);
        int[] second = {4, 15, 24, 35};
        for (int g = 0; g < 4; g++) {
            CHECK.due("hunger of " + g, x.guest(g, 1), second[g]);
        }
        CHECK.due("fed", x.fruit(0, 4), 30);
        CHECK.due("no marks", x.fruit(0, 3), 0);
        CHECK.due("nobody bit", x.count(6), 0);
        CHECK.due("fed in all", x.count(8), 30);
        CHECK.due("hunger in all", x.count(9), 78);
        WaxBowl y = CHECK.told("guest a 99 0 9;guest b 99 4 0;fruit p 9 0;");
        y.go(1);
        CHECK.due("no more than there was is fed", y.fruit(0, 4), 4);
        CHECK.due("0 at least", y.guest(1, 1), 1);
    }

    private static void biting() {
        WaxBowl x = CHECK.told(BITERS);
        CHECK.due("go", x.go(1), 1);
        CHECK.due("it is eaten", x.fruit(0, 2), 1);
        CHECK.due("a mark", x.fruit(0, 3), 1);
        CHECK.due("hunger 0 and one more", x.guest(0, 1), 1);
        CHECK.due("bit", x.guest(0, 6), 1);
        CHECK.due("its manners stay", x.guest(0, 0), 50);
        CHECK.due("shocked", x.guest(1, 0), 40);
        CHECK.due("shocked to 0", x.guest(2, 0), 0);
        CHECK.due("nothing fed by a bite", x.count(8), 0);
        x.go(1);
        CHECK.due("b praises, less by a mark, those who are hungry by 1", x.fruit(0, 4), 2);
        x.go(1);
        CHECK.due("c bites", x.guest(2, 6), 1);
        CHECK.due("two marks", x.fruit(0, 3), 2);
        CHECK.due("what is eaten feeds no more", x.guest(2, 1), 2);
        CHECK.due("a shocked", x.guest(0, 0), 40);
        CHECK.due("b shocked", x.guest(1, 0), 30);
        CHECK.due("bites", x.count(6), 2);
        CHECK.due("eaten", x.count(7), 1);
        WaxBowl wax = CHECK.told("guest a 50 60 2;fruit p 5 0;");
        wax.go(1);
        CHECK.due("wax isn't eaten", wax.fruit(0, 2), 0);
        CHECK.due("wax has a mark", wax.fruit(0, 3), 1);
        CHECK.due("wax doesn't feed", wax.guest(0, 1), 61);
        CHECK.due("wax with a mark isn't untouched", wax.untouched(), 0);
        CHECK.due("wax with a mark is marked", wax.marked(), 1);
        CHECK.due("wax isn't eaten", wax.count(7), 0);
        WaxBowl even = CHECK.told("guest a 60 60 2;fruit p 5 0;");
        even.go(1);
        CHECK.due("hunger must be more than manners", even.count(6), 0);
    }

    private static void toldBites() {
        WaxBowl x = CHECK.told("guest a 99 0 0;guest b 99 0 0;fruit p 1 0;fruit q 1 0;fruit r 1 0;bite b 0;bite b 3;bite a 99;");
        x.go(1);
        CHECK.due("b isn't at the bowl", x.count(6), 0);
        x.go(3);
        CHECK.due("b bites at step 3", x.guest(1, 6), 1);
        CHECK.due("the first fruit is uppermost then", x.marked(), 0b001);
        CHECK.due("manners less by ten", x.guest(0, 0), 89);
        x.go(6);
        CHECK.due("not again", x.count(6), 1);
        WaxBowl y = CHECK.told("guest a 99 0 9;guest b 99 0 9;fruit p 9 0;bite b 99;bite b 99;");
        y.go(99);
        CHECK.due("not yet", y.count(6), 0);
        y.go(1);
        CHECK.due("once", y.count(6), 1);
    }

    private static void fruits() {
        WaxBowl x = CHECK.told("guest a 50 60 2;fruit p 5 1;fruit q 0 0;");
        CHECK.due("sweet", x.fruit(0, 0), 5);
        CHECK.due("real", x.fruit(0, 1), 1);
        CHECK.due("wax", x.fruit(1, 1), 0);
        CHECK.due("not eaten", x.fruit(0, 2), 0);
        CHECK.due("below", x.fruit(-1, 0), WaxBowl.NONE);
        CHECK.due("beyond", x.fruit(2, 0), WaxBowl.NONE);
        CHECK.due("no such what", x.fruit(0, 5), WaxBowl.NONE);
        CHECK.due("no such what", x.fruit(0, -1), WaxBowl.NONE);
        CHECK.due("uppermost", x.uppermost(), 0);
        CHECK.due("untouched", x.untouched(), 3);
        CHECK.due("marked", x.marked(), 0);
        x.go(1);
        CHECK.due("uppermost", x.uppermost(), 1);
        CHECK.due("untouched", x.untouched(), 2);
        CHECK.due("marked", x.marked(), 1);
        x.go(1);
        CHECK.due("uppermost", x.uppermost(), 0);
        CHECK.due("still", x.untouched(), 2);
    }

    private static long valueOf(String e) {
        return CHECK.told("guest a 61 22 3;guest b 44 33 9;fruit p 4 0;fruit q 7 0;law dare " + e + ";").law(1, 0, 0);
    }

    private static void expressions() {
        String[] texts = {"2 + 3 * 4 - 10 / 3", "7 - 2 - 1", "8 / 2 / 2", "2 * 3 / 4", "0 - 7 / 2", "(0 - 7) / 2", "7 / (0 - 2)",
            "1 < 2", "2 < 2", "2 <= 2", "3 <= 2", "2 = 2", "2 = 1", "2 <> 2", "2 <> 1", "2 >= 2", "1 >= 2", "2 > 2", "3 > 2",
            "not 0 + 1", "not 1 and 0", "not (1 and 0)", "1 or 0 and 0", "(1 or 0) and 0", "5 and 7", "0 or 5", "not 5", "not not 5",
            "0 and 5", "0 or 0", "0 - 1 and 0 - 1", "not 1 = 2", "1 + 1 = 2", "1 < 2 and 3 > 2",
            "1000*1000*1000*1000", "0 - 1000*1000*1000*1000", "9999 * 9999 * 9999", "0 * 5 - 9999 * 9999 * 9999", "(2 + 3) * (4 - 6)",
            "((1))", "0000012", "0 / 5", "9-(0-9)", "1000*1000*(0-1000*1000)", "(0-1000*1000)*(1000*1000)", "(0-1000*1000)*(0-1000*1000)",
            "((((((((" + "not ".repeat(63) + "1))))))))", "((((((((" + "not ".repeat(62) + "1))))))))"};
        long[] values = {11, 4, 2, 1, -3, -3, -3,
            1, 0, 1, 0, 1, 0, 0, 1, 1, 0, 0, 1,
            0, 0, 1, 1, 0, 1, 1, 0, 1,
            0, 0, 1, 1, 1, 1,
            1000000000000L, -1000000000000L, 999700029999L, -999700029999L, -10,
            1, 12, 0, 18, -1000000000000L, -1000000000000L, 1000000000000L,
            0, 1};
        CHECK.due("as many texts as values", texts.length, values.length);
        for (int i = 0; i < Math.min(texts.length, values.length); i++) {
            CHECK.due(texts[i], valueOf(texts[i]), values[i]);
        }
        String[] errors = {"1 / 0", "0 / 0", "1 or 1 / 0", "0 and 1 / 0", "not (1 / 0)", "1000*1000*1000*1000 + 1",
            "0 - 1000*1000*1000*1000 - 1", "9999*9999*9999*2", "9999*9999*9999*9999/9999",
            "(9999*9999*9999)*(9999*9999*9999)", "(9999*9999*9999)*(0-9999*9999*9999)", "1000*1000*1000*1000*0-(1/(1-1))",
            "(0 - 1000*1000*1000*1000) * 2 < 0", "5 / (2 / 3)", "(4096*4096*256)*(4096*4096*256)",
            "(4096*4096*256)*(0-4096*4096*256)", "(0-4096*4096*256)*(0-4096*4096*256)"};
        for (String e : errors) {
            CHECK.due(e, valueOf(e), Long.MIN_VALUE);
        }
        CHECK.due("0 times much", valueOf("0 * (9999 * 9999 * 9999)"), 0);
        CHECK.due("much times 0", valueOf("9999 * 9999 * 9999 * 0"), 0);
    }

    private static void laws() {
        WaxBowl x = CHECK.told("guest a 61 22 3;guest b 44 33 9;guest c 99 98 0;fruit p 4 0;fruit q 7 0;near 5;"
                + "law praise manner * 1000 + hunger;law dare wit * 1000 + sweet * 10 + marks + there * 100;law shock step;");
        CHECK.due("praise of a", x.law(0, 0, 0), 61022);
        CHECK.due("praise of b", x.law(0, 1, 1), 44033);
        CHECK.due("dare of a, p", x.law(1, 0, 0), 3340);
        CHECK.due("dare of b, q", x.law(1, 1, 1), 9370);
        CHECK.due("shock", x.law(2, 1, 1), 0);
        CHECK.due("no such law", x.law(3, 0, 0), Long.MIN_VALUE);
        CHECK.due("no such law", x.law(-1, 0, 0), Long.MIN_VALUE);
        CHECK.due("no such guest", x.law(0, 3, 0), Long.MIN_VALUE);
        CHECK.due("no such guest", x.law(0, -1, 0), Long.MIN_VALUE);
        CHECK.due("no such fruit", x.law(0, 0, 2), Long.MIN_VALUE);
        CHECK.due("no such fruit", x.law(0, 0, -1), Long.MIN_VALUE);
        x.go(1);
        CHECK.due("all dare: a mark, one there less", x.law(1, 0, 0), 3241);
        CHECK.due("the other fruit has none", x.law(1, 0, 1), 3270);
        CHECK.due("of who fainted, too", x.law(0, 2, 0), 99099);
        CHECK.due("the step", x.law(2, 0, 0), 1);
        CHECK.due("a law that isn't told", CHECK.told("guest a 1 1 1;fruit p 1 1;law dare 1;").law(0, 0, 0), Long.MIN_VALUE);
    }

    private static void lawsInSteps() {
        WaxBowl x = CHECK.told("guest a 50 90 0;guest b 50 80 0;fruit p 1 0;law praise 70 + 31;law dare 0;");
        x.go(1);
        CHECK.due("99 at most: nothing is left", x.guest(1, 1), 1);
        CHECK.due("by dare nobody bites", x.count(6), 0);
        WaxBowl less = CHECK.told("guest a 50 10 0;guest b 50 80 0;fruit p 1 0;law praise 0 - 5;");
        less.go(1);
        CHECK.due("0 at least", less.guest(1, 1), 81);
        WaxBowl error = CHECK.told("guest a 50 10 4;guest b 50 40 0;fruit p 3 0;law praise 1 / 0;law dare 1 / marks;");
        error.go(1);
        CHECK.due("with an error as without", error.guest(1, 1), 34);
        WaxBowl fewer = CHECK.told("guest a 50 10 1;guest b 50 40 0;fruit p 0 0;bite a 0;bite a 2;bite a 4;");
        fewer.go(6);
        CHECK.due("marks above wit and sweet: nothing less", fewer.guest(1, 1), 46);
        WaxBowl shock = CHECK.told("guest a 90 0 0;guest b 90 0 7;guest c 3 0 9;fruit p 1 0;bite a 0;law shock wit + marks * 10 + there;");
        shock.go(1);
        CHECK.due("by who is shocked, this mark, too", shock.guest(1, 0), 70);
        CHECK.due("0 at least", shock.guest(2, 0), 0);
        WaxBowl much = CHECK.told("guest a 90 0 0;guest b 99 0 7;guest c 3 0 9;fruit p 1 0;bite a 0;law shock 0 - 9999;");
        much.go(1);
        CHECK.due("no more than before below 0", much.guest(1, 0), 99);
        WaxBowl wrong = CHECK.told("guest a 90 0 0;guest b 99 0 7;fruit p 1 0;bite a 0;law shock 1 / 0;");
        wrong.go(1);
        CHECK.due("10 with an error", wrong.guest(1, 0), 89);
        WaxBowl all = CHECK.told("guest a 90 0 0;guest b 99 0 7;fruit p 1 0;bite a 0;law shock 9999;");
        all.go(1);
        CHECK.due("99 at most", all.guest(1, 0), 0);
        WaxBowl dare = CHECK.told("guest a 0 90 0;guest b 99 0 7;fruit p 1 0;law dare manner - 99;");
        dare.go(2);
        CHECK.due("a dares, as it isn't 0", dare.guest(0, 6), 1);
        CHECK.due("b was shocked", dare.guest(1, 6), 1);
        WaxBowl names = CHECK.told("guest a 99 5 8;guest b 99 90 0;fruit p 3 0;law praise hunger + wit * sweet;");
        names.go(1);
        CHECK.due("praise by who has the bowl", names.guest(1, 1), 90 - 29 + 1);
    }

    private static void emptySeats() {
        WaxBowl x = CHECK.told("guest a 99 98 0;guest b 99 0 9;guest c 99 0 9;fruit p 9 0;");
        x.go(1);
        CHECK.due("there", x.count(5), 2);
        CHECK.due("b at the bowl", x.bowl(), 1);
        x.go(2);
        CHECK.due("seat 0 is empty", x.bowl(), -2);
        int fed = x.count(8);
        x.go(1);
        CHECK.due("nothing is fed there", x.count(8), fed);
        CHECK.due("hunger grows all the same", x.guest(1, 1), 2);
        CHECK.due("nobody at the bowl without guests", new WaxBowl().bowl(), -2);
        CHECK.due("nothing uppermost without fruits", CHECK.told("guest a 1 1 1;").uppermost(), -2);
        CHECK.due("someone is at the bowl without fruits", CHECK.told("guest a 1 1 1;").bowl(), 0);
        WaxBowl none = CHECK.told("guest a 1 50 1;guest b 1 2 1;bite a 0;");
        none.go(1);
        CHECK.due("no bite without fruits", none.count(6), 0);
        CHECK.due("hunger grows", none.guest(0, 1), 51);
    }

    private static void draughts() {
        WaxBowl x = CHECK.told("guest a 99 0 0;cold 50;");
        int[] hunger = {3, 4, 5, 8, 9, 12, 15, 18, 21, 24};
        for (int i = 0; i < hunger.length; i++) {
            x.go(1);
            CHECK.due("hunger behind step " + i, x.guest(0, 1), hunger[i]);
        }
        WaxBowl two = CHECK.told("guest a 99 98 0;guest b 99 0 0;cold 50;seed 0;");
        two.go(4);
        CHECK.due("a felt a draught", two.guest(0, 1), 101);
        CHECK.due("b has the numbers alone then", two.guest(1, 1), 6);
        WaxBowl all = CHECK.told("guest a 99 0 0;cold 100;");
        all.go(7);
        CHECK.due("always", all.guest(0, 1), 21);
        WaxBowl no = CHECK.told("guest a 99 0 0;cold 0;seed 5;");
        no.go(7);
        CHECK.due("never", no.guest(0, 1), 7);
        WaxBowl edge = CHECK.told("guest a 99 0 0;guest b 99 0 0;cold 68;");
        edge.go(1);
        CHECK.due("0 is below 68", edge.guest(0, 1), 3);
        CHECK.due("68 isn't", edge.guest(1, 1), 1);
        WaxBowl seed = CHECK.told("guest a 99 0 0;cold 50;seed 99999;");
        long number = 99999;
        int due = 0;
        for (int i = 0; i < 20; i++) {
            number = (number * 1103515245L + 12345L) % 2147483648L;
            due += number / 65536 % 100 < 50 ? 3 : 1;
        }
        seed.go(20);
        CHECK.due("from a seed", seed.guest(0, 1), due);
    }

    private static void seating() {
        WaxBowl x = CHECK.told(FOUR);
        CHECK.due("alike", x.seat(1, 1), false);
        CHECK.due("below", x.seat(-1, 1), false);
        CHECK.due("beyond", x.seat(1, 4), false);
        CHECK.due("nothing was done", x.count(12), 0);
        CHECK.due("seat", x.seat(0, 1), true);
        CHECK.due("seat of a", x.guest(0, 3), 1);
        CHECK.due("seat of b", x.guest(1, 3), 0);
        CHECK.due("bowl", x.bowl(), 1);
        CHECK.due("who hear a", x.guest(0, 5), 0b0110);
        CHECK.due("done", x.count(12), 1);
        WaxBowl y = CHECK.told("guest a 99 98 0;guest b 99 0 9;guest c 99 0 9;");
        y.go(1);
        CHECK.due("who fainted, too", y.seat(0, 1), true);
        CHECK.due("its seat", y.guest(0, 3), 1);
        CHECK.due("seat 1 is empty then", y.bowl(), -2);
    }

    private static void feeding() {
        WaxBowl x = CHECK.told("guest a 99 98 0;guest b 99 40 9;");
        CHECK.due("bread", x.bread(1, 15), 25);
        CHECK.due("hunger", x.guest(1, 1), 25);
        CHECK.due("0 at least", x.bread(1, 99), 0);
        CHECK.due("at 0, too", x.bread(1, 1), 0);
        CHECK.due("three can be undone", x.count(12), 3);
        CHECK.due("none", x.bread(1, 0), WaxBowl.NONE);
        CHECK.due("too much", x.bread(1, 100), WaxBowl.NONE);
        CHECK.due("below", x.bread(-1, 5), WaxBowl.NONE);
        CHECK.due("beyond", x.bread(2, 5), WaxBowl.NONE);
        x.go(1);
        CHECK.due("not there", x.bread(0, 5), WaxBowl.NONE);
    }

    private static void waking() {
        WaxBowl x = CHECK.told("guest a 99 98 0;guest b 99 40 9;");
        CHECK.due("it is there", x.wake(0), false);
        CHECK.due("below", x.wake(-1), false);
        CHECK.due("beyond", x.wake(2), false);
        x.go(1);
        CHECK.due("woken", x.wake(0), true);
        CHECK.due("hunger", x.guest(0, 1), 50);
        CHECK.due("there", x.guest(0, 4), 1);
        CHECK.due("once", x.wake(0), false);
        CHECK.due("to undo", x.count(12), 1);
    }

    private static void going() {
        WaxBowl x = CHECK.told("guest a 99 0 9;guest b 99 0 9;fruit p 9 0;");
        CHECK.due("below", x.go(-1), WaxBowl.NONE);
        CHECK.due("beyond", x.go(201), WaxBowl.NONE);
        CHECK.due("none", x.go(0), 0);
        for (int i = 1; i <= 44; i++) {
            CHECK.due("go", x.go(200), 200 * i);
        }
        x.go(1);
        CHECK.due("behind 9000", x.go(200), WaxBowl.NONE);
        CHECK.due("none did", x.count(4), 8801);
        CHECK.due("up to it", x.go(199), 9000);
        CHECK.due("behind it", x.go(1), WaxBowl.NONE);
        CHECK.due("no step", x.go(0), 9000);
        CHECK.due("ahead goes on", x.ahead(1, 4, 0), 2);
        CHECK.due("both are there", x.count(5), 2);
    }

    private static void whoIs() {
        WaxBowl first = CHECK.told("guest a 20 50 1;guest b 20 50 1;");
        CHECK.due("the first", first.hungriest(), 0);
        CHECK.due("the first", first.rudest(), 0);
        WaxBowl x = CHECK.told("guest a 30 20 1;guest b 20 50 1;guest c 20 50 1;guest d 90 98 1;guest e 99 97 0;guest f 5 98 0;");
        CHECK.due("hungriest, the first", x.hungriest(), 3);
        CHECK.due("rudest", x.rudest(), 5);
        CHECK.due("across", x.apart(0, 3), 3);
        CHECK.due("the shorter way", x.apart(5, 1), 2);
        CHECK.due("the same", x.apart(1, 5), 2);
        CHECK.due("oneself", x.apart(2, 2), 0);
        CHECK.due("below", x.apart(-1, 2), WaxBowl.NONE);
        CHECK.due("beyond", x.apart(2, 6), WaxBowl.NONE);
        x.go(1);
        CHECK.due("hungriest of those there", x.hungriest(), 4);
        CHECK.due("rudest of those there, the first", x.rudest(), 1);
        CHECK.due("apart of who fainted", x.apart(3, 5), 2);
        x.go(1);
        CHECK.due("hungriest, the first of two", x.hungriest(), 1);
        x.go(200);
        CHECK.due("nobody is there", x.hungriest(), -2);
        CHECK.due("nobody is there", x.rudest(), -2);
        CHECK.due("hunger of all there", x.count(9), 0);
    }

    private static void counting() {
        WaxBowl x = CHECK.told("guest a 30 20 1;guest b 20 98 1;guest c 20 50 1;fruit p 1 1;fruit q 2 0;"
                + "bite a 0;bite b 3;law praise 3;law dare wit > 5 and not step;");
        int[] first = {3, 2, 2, 7, 0, 3, 0, 0, 0, 168, 0, 0, 0};
        for (int what = 0; what <= 12; what++) {
            CHECK.due("count(" + what + ")", x.count(what), first[what]);
        }
        CHECK.due("count(13)", x.count(13), WaxBowl.NONE);
        CHECK.due("count(-1)", x.count(-1), WaxBowl.NONE);
        x.go(3);
        x.see(1, 1, 1, true);
        x.see(1, 1, 1, true);
        x.strike(0);
        x.seat(0, 1);
        // a bites the real fruit, b faints, seat 1 is empty, then c praises and feeds a by 2, which it is hungry by.
        int[] then = {3, 2, 2, 7, 3, 2, 1, 1, 2, 54, 3, 3, 1};
        for (int what = 0; what <= 12; what++) {
            CHECK.due("then count(" + what + ")", x.count(what), then[what]);
        }
        x.known(2);
        CHECK.due("known by two", x.count(11), 2);
        x.see(1, 1, 1, true);
        CHECK.due("still by two", x.count(11), 2);
        x.known(-1);
        CHECK.due("by all", x.count(11), 4);
    }

    public static void main(String[] args) {
        guests();
        hearing();
        praising();
        biting();
        toldBites();
        fruits();
        expressions();
        laws();
        lawsInSteps();
        emptySeats();
        draughts();
        seating();
        feeding();
        waking();
        going();
        whoIs();
        counting();
        CHECK.end();
    }
}
