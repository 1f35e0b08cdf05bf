/** Promises 13 to 18, 28, 29, 33, 39, 40: what comes, as it goes, by chance, tried otherwise. */
public final class AheadTest {
    private static final Check CHECK = new Check("AheadTest");
    private static final String FOUR = "guest a 50 10 2;guest b 50 20 3;guest c 50 30 4;guest d 50 40 5;fruit p 5 0;";
    private static final String BITERS = "guest a 50 60 2;guest b 50 20 3;guest c 5 0 1;fruit p 5 1;";
    private static final String LASTING = "guest a 99 0 9;guest b 99 0 9;fruit p 9 1;";

    private static void ahead() {
        WaxBowl x = CHECK.told(FOUR);
        CHECK.due("fed in 0", x.ahead(0, 4, 0), 0);
        CHECK.due("fed in 1", x.ahead(1, 4, 0), 14);
        CHECK.due("fed in 2", x.ahead(2, 4, -7), 30);
        CHECK.due("hunger of a in 2", x.ahead(2, 2, 0), 4);
        CHECK.due("hunger of c in 2", x.ahead(2, 2, 2), 24);
        CHECK.due("hunger now", x.ahead(0, 2, 2), 30);
        CHECK.due("nothing went by", x.count(4), 0);
        CHECK.due("nothing changed", x.guest(0, 1), 10);
        x.go(1);
        CHECK.due("fed more", x.ahead(1, 4, 0), 16);
        CHECK.due("n below", x.ahead(-1, 0, 0), WaxBowl.NONE);
        CHECK.due("n beyond", x.ahead(201, 0, 0), WaxBowl.NONE);
        CHECK.due("n at the end", x.ahead(200, 1, 99), 0);
        CHECK.due("what below", x.ahead(1, -1, 0), WaxBowl.NONE);
        CHECK.due("what beyond", x.ahead(1, 5, 0), WaxBowl.NONE);
        CHECK.due("guest below", x.ahead(1, 2, -1), WaxBowl.NONE);
        CHECK.due("guest beyond", x.ahead(1, 3, 4), WaxBowl.NONE);
        CHECK.due("guest isn't looked at", x.ahead(1, 0, 4), 0);
        CHECK.due("guest isn't looked at", x.ahead(1, 1, -1), 0);
        WaxBowl y = CHECK.told(BITERS);
        CHECK.due("bites in 1", y.ahead(1, 0, 0), 1);
        CHECK.due("bites in 3", y.ahead(3, 0, 0), 2);
        CHECK.due("manners of b in 3", y.ahead(3, 3, 1), 30);
        CHECK.due("manners of c", y.ahead(1, 3, 2), 0);
        CHECK.due("hunger of a", y.ahead(1, 2, 0), 1);
        y.go(1);
        CHECK.due("bites more in 2", y.ahead(2, 0, 0), 1);
    }

    private static void draughtsAsItGoes() {
        CHECK.due("cold 49", CHECK.told("guest a 99 0 0;cold 49;").ahead(5, 2, 0), 5);
        CHECK.due("cold 50", CHECK.told("guest a 99 0 0;cold 50;").ahead(5, 2, 0), 15);
        CHECK.due("cold 100", CHECK.told("guest a 99 0 0;cold 100;").ahead(5, 2, 0), 15);
        WaxBowl x = CHECK.told("guest a 99 90 0;guest b 99 98 0;guest c 99 96 0;cold 99;");
        CHECK.due("who fainted more", x.ahead(1, 1, 0), 2);
        CHECK.due("hunger stays", x.ahead(9, 2, 1), 101);
        x.go(1);
        CHECK.due("more than now", x.ahead(5, 1, 0), 1);
        CHECK.due("no numbers are drawn", x.ahead(2, 2, 0), 99);
    }

    private static void swooning() {
        CHECK.due("in three", CHECK.told("guest a 99 96 0;cold 49;").swoon(0), 3);
        CHECK.due("in this one", CHECK.told("guest a 99 96 0;cold 50;").swoon(0), 1);
        WaxBowl x = CHECK.told("guest a 99 98 0;guest b 99 0 0;");
        CHECK.due("below", x.swoon(-1), WaxBowl.NONE);
        CHECK.due("beyond", x.swoon(2), WaxBowl.NONE);
        CHECK.due("in 99", x.swoon(1), 99);
        x.go(1);
        CHECK.due("it did", x.swoon(0), 0);
        CHECK.due("one less", x.swoon(1), 98);
        CHECK.due("never", CHECK.told(LASTING).swoon(0), -2);
        String late = "guest a 99 0 2;guest b 99 0 1;fruit p 0 0;law praise wit + (step = 5)";
        CHECK.due("at the last", CHECK.told(late + ";").swoon(0), 199);
        CHECK.due("behind it", CHECK.told(late + " + (step = 7);").swoon(0), -2);
    }

    private static void nextBites() {
        WaxBowl x = CHECK.told(BITERS);
        CHECK.due("this step", x.nextBite(0), 1);
        CHECK.due("a", x.nextBite(1), 0);
        x.go(1);
        CHECK.due("in two", x.nextBite(0), 2);
        CHECK.due("c", x.nextBite(1), 2);
        CHECK.due("no such what", x.nextBite(2), WaxBowl.NONE);
        CHECK.due("no such what", x.nextBite(-1), WaxBowl.NONE);
        WaxBowl never = CHECK.told(LASTING);
        CHECK.due("never", never.nextBite(0), -2);
        CHECK.due("nobody", never.nextBite(1), -2);
        WaxBowl last = CHECK.told(LASTING + "law dare step = 198;");
        CHECK.due("at the last", last.nextBite(0), 199);
        CHECK.due("by a", last.nextBite(1), 0);
        CHECK.due("eaten then", last.eatenIn(0), 199);
        WaxBowl behind = CHECK.told(LASTING + "law dare step = 199;");
        CHECK.due("behind it", behind.nextBite(0), -2);
        CHECK.due("behind it", behind.nextBite(1), -2);
        CHECK.due("not eaten by then", behind.eatenIn(0), -2);
        behind.go(1);
        CHECK.due("one later", behind.nextBite(0), 199);
        CHECK.due("by b", behind.nextBite(1), 1);
    }

    private static void eatenIn() {
        WaxBowl x = CHECK.told(BITERS + "fruit q 0 0;fruit r 0 1;");
        CHECK.due("this step", x.eatenIn(0), 1);
        CHECK.due("wax", x.eatenIn(1), -2);
        CHECK.due("c's turn", x.eatenIn(2), 3);
        CHECK.due("below", x.eatenIn(-1), WaxBowl.NONE);
        CHECK.due("beyond", x.eatenIn(3), WaxBowl.NONE);
        x.go(1);
        CHECK.due("it is", x.eatenIn(0), 0);
        CHECK.due("in two", x.eatenIn(2), 2);
    }

    private static void tables() {
        String text = "guest a 99 0 9;guest b 99 10 0;guest c 99 60 0;guest d 99 60 0;fruit p 0 0;";
        WaxBowl x = CHECK.told(text);
        int[] seats = {0, 2, 1, 3, -2, -2, 0};
        for (int what = 0; what <= 6; what++) {
            CHECK.due("table(" + what + ")", x.table(what), seats[what]);
        }
        CHECK.due("no such what", x.table(7), WaxBowl.NONE);
        CHECK.due("no such what", x.table(-1), WaxBowl.NONE);
        CHECK.due("nobody was seated otherwise", x.guest(1, 3), 1);
        x.seat(0, 2);
        int[] then = {2, 0, 3, 1, -2, -2, 0};
        for (int what = 0; what <= 6; what++) {
            CHECK.due("then table(" + what + ")", x.table(what), then[what]);
        }
        WaxBowl alike = CHECK.told("guest a 99 59 0;guest b 99 58 0;guest c 99 59 0;guest d 99 0 0;guest e 99 0 0;guest f 99 0 0;");
        alike.seat(1, 5);
        alike.seat(2, 3);
        for (int what = 0; what < 6; what++) {
            CHECK.due("the first of several, table(" + what + ")", alike.table(what), what);
        }
        CHECK.due("in 40 steps", alike.table(6), 2);
        alike.go(5);
        CHECK.due("39 faint, too", alike.table(6), 3);
        alike.go(40);
        CHECK.due("more than now", alike.table(6), 0);
        String six = "guest a 9 98 0;guest b 9 98 0;guest c 9 98 0;guest d 9 98 0;guest e 9 98 0;guest f 9 98 0;";
        CHECK.due("all faint", CHECK.told(six).table(6), 6);
        CHECK.due("all faint, by any seats", CHECK.told(six).table(5), 5);
        CHECK.due("no guests", new WaxBowl().table(0), -2);
        CHECK.due("no guests", new WaxBowl().table(5), -2);
        CHECK.due("no guests", new WaxBowl().table(6), 0);
        CHECK.due("one guest", CHECK.told("guest a 1 1 1;").table(0), 0);
        CHECK.due("one guest", CHECK.told("guest a 1 1 1;").table(1), -2);
    }

    private static void holding() {
        CHECK.due("without guests", new WaxBowl().hold(), 0);
        WaxBowl x = CHECK.told("guest a 99 98 0;guest b 99 90 0;");
        CHECK.due("in nine", x.hold(), 9);
        x.go(9);
        CHECK.due("now", x.hold(), 0);
        CHECK.due("never", CHECK.told(LASTING).hold(), -2);
        CHECK.due("998", CHECK.told(LASTING + "law praise (step < 900) * 9;").hold(), 998);
        CHECK.due("999", CHECK.told(LASTING + "law praise (step < 901) * 9;").hold(), 999);
        CHECK.due("1000", CHECK.told(LASTING + "law praise (step < 902) * 9;").hold(), -2);
    }

    private static void calming() {
        CHECK.due("without guests", new WaxBowl().calm(), 0);
        CHECK.due("nobody bites", CHECK.told(LASTING).calm(), 0);
        WaxBowl x = CHECK.told("guest a 10 50 0;guest b 99 0 0;guest c 12 60 0;fruit p 0 0;");
        CHECK.due("a and c", x.calm(), 0b101);
        CHECK.due("they are there still", x.count(5), 3);
        CHECK.due("by a bite c is shocked, so a alone",
                CHECK.told("guest a 10 50 0;guest b 99 0 0;guest c 40 0 0;fruit p 0 0;law shock 50;").calm(), 0b001);
        CHECK.due("at step 29", CHECK.told("guest a 99 0 9;guest b 99 0 9;guest c 99 0 0;fruit p 0 0;law dare step = 29;").calm(), 0b100);
        CHECK.due("at step 30", CHECK.told("guest a 99 0 9;guest b 99 0 9;guest c 99 0 0;fruit p 0 0;law dare step = 30;").calm(), 0);
        CHECK.due("all", CHECK.told("guest a 99 0 9;guest b 99 0 9;guest c 99 0 0;fruit p 0 0;law dare 1;").calm(), 0b111);
        CHECK.due("two of three, the least bits",
                CHECK.told("guest a 99 0 9;guest b 99 0 9;guest c 99 0 0;fruit p 0 0;law dare there > 1;").calm(), 0b011);
        CHECK.due("fewer ones ahead of less bits", CHECK.told("guest a 99 0 0;guest b 99 0 0;guest c 99 0 9;fruit p 0 0;"
                + "law dare wit > 5 and there > 1;").calm(), 0b100);
        WaxBowl fallen = CHECK.told("guest a 99 98 9;guest b 99 0 9;fruit p 0 0;law dare step > 5;");
        CHECK.due("a faints, but b doesn't", fallen.calm(), 0b10);
        WaxBowl fed = CHECK.told("guest a 50 0 9;guest b 20 10 0;guest c 99 0 9;fruit p 0 0;near 1;");
        CHECK.due("fed they don't bite", fed.calm(), 0);
        WaxBowl later = CHECK.told("guest a 0 98 0;guest b 0 0 0;guest c 0 50 0;");
        later.go(1);
        CHECK.due("no fruits", later.calm(), 0);
    }

    private static void loaves() {
        WaxBowl x = CHECK.told("guest a 99 98 0;guest b 99 40 0;");
        CHECK.due("98 for 98", x.loaf(0, 98), 98);
        CHECK.due("by none", x.loaf(0, 99), -2);
        CHECK.due("one for one", x.loaf(0, 1), 1);
        CHECK.due("nothing", x.loaf(1, 58), 0);
        CHECK.due("one", x.loaf(1, 59), 1);
        CHECK.due("n below", x.loaf(1, 0), WaxBowl.NONE);
        CHECK.due("n beyond", x.loaf(1, 100), WaxBowl.NONE);
        CHECK.due("guest below", x.loaf(-1, 5), WaxBowl.NONE);
        CHECK.due("guest beyond", x.loaf(2, 5), WaxBowl.NONE);
        CHECK.due("nothing was given", x.guest(1, 1), 40);
        x.go(1);
        CHECK.due("not there", x.loaf(0, 5), WaxBowl.NONE);
        CHECK.due("with draughts", CHECK.told("guest a 99 90 0;cold 50;").loaf(0, 10), 22);
        // The hungrier one bites the real fruit and has no hunger then, so less bread may be better.
        CHECK.due("the least", CHECK.told("guest a 50 90 0;fruit p 0 1;").loaf(0, 20), 0);
    }

    private static void graces() {
        WaxBowl x = CHECK.told(BITERS);
        CHECK.due("now", x.grace(0), 105);
        CHECK.due("in 1", x.grace(1), 90);
        CHECK.due("in 3", x.grace(3), 70);
        CHECK.due("below", x.grace(-1), WaxBowl.NONE);
        CHECK.due("beyond", x.grace(201), WaxBowl.NONE);
        CHECK.due("nothing changed", x.grace(0), 105);
        WaxBowl y = CHECK.told("guest a 99 98 0;guest b 10 0 0;");
        CHECK.due("of those there", y.grace(1), 10);
        CHECK.due("of nobody", y.grace(200), 0);
    }

    private static void chances() {
        WaxBowl x = CHECK.told("guest a 99 95 0;cold 50;seed 77;");
        CHECK.due("two numbers a time", x.chance(0, 2, 0), 7);
        CHECK.due("fewer numbers by fainting", x.chance(0, 3, 0), 7);
        CHECK.due("in four surely", x.chance(0, 4, 0), 10);
        CHECK.due("in one never", x.chance(0, 1, 0), 0);
        CHECK.due("less cold", CHECK.told("guest a 99 95 0;cold 30;").chance(0, 2, 0), 5);
        CHECK.due("seed below", x.chance(-1, 2, 0), WaxBowl.NONE);
        CHECK.due("n below", x.chance(0, 0, 0), WaxBowl.NONE);
        CHECK.due("n beyond", x.chance(0, 100, 0), WaxBowl.NONE);
        CHECK.due("n at the end", x.chance(0, 99, 0), 10);
        CHECK.due("guest below", x.chance(0, 2, -1), WaxBowl.NONE);
        CHECK.due("guest beyond", x.chance(0, 2, 1), WaxBowl.NONE);
        long number = 2147483647;
        int gone = 0;
        for (int i = 0; i < 10; i++) {
            int hunger = 95;
            for (int k = 0; k < 2; k++) {
                number = (number * 1103515245L + 12345L) % 2147483648L;
                hunger += number / 65536 % 100 < 50 ? 3 : 1;
            }
            gone += hunger >= 99 ? 1 : 0;
        }
        CHECK.due("the greatest seed", x.chance(2147483647, 2, 0), gone);
        CHECK.due("always a draught", CHECK.told("guest a 99 93 0;cold 100;").chance(5, 2, 0), 10);
        CHECK.due("never a draught", CHECK.told("guest a 99 93 0;cold 0;").chance(5, 5, 0), 0);
        WaxBowl own = CHECK.told("guest a 99 0 0;cold 50;");
        own.chance(12345, 9, 0);
        own.go(4);
        CHECK.due("the numbers of steps stay their own", own.guest(0, 1), 8);
        x.go(4);
        CHECK.due("it isn't there already", x.chance(0, 1, 0), 10);
    }

    private static void tries() {
        WaxBowl cold = CHECK.told("guest a 99 96 0;cold 100;");
        CHECK.due("with draughts", cold.ahead(1, 1, 0), 1);
        CHECK.due("without", cold.tried(0, 0, 1), 0);
        CHECK.due("without in three", cold.tried(0, 0, 3), 1);
        WaxBowl bites = CHECK.told("guest a 0 97 0;fruit p 0 1;");
        CHECK.due("it eats", bites.ahead(3, 1, 0), 0);
        CHECK.due("it doesn't bite", bites.tried(1, 0, 3), 1);
        WaxBowl told = CHECK.told("guest a 99 97 0;fruit p 0 1;bite a 0;");
        CHECK.due("it doesn't bite as told", told.tried(1, 0, 3), 1);
        CHECK.due("it bites, though it doesn't praise", told.tried(2, 0, 3), 0);
        WaxBowl praise = CHECK.told("guest a 99 50 9;guest b 99 97 0;fruit p 0 0;");
        CHECK.due("b is fed", praise.ahead(2, 1, 0), 0);
        CHECK.due("a doesn't praise", praise.tried(2, 0, 2), 1);
        CHECK.due("b doesn't praise", praise.tried(2, 1, 2), 0);
        WaxBowl instead = CHECK.told("guest a 0 50 9;guest b 99 97 0;fruit p 0 0;");
        CHECK.due("a bites", instead.ahead(2, 1, 0), 1);
        CHECK.due("who doesn't bite praises", instead.tried(1, 0, 2), 0);
        WaxBowl wax = CHECK.told("guest a 0 97 0;fruit p 0 0;");
        CHECK.due("wax", wax.ahead(2, 1, 0), 1);
        CHECK.due("real", wax.tried(3, 0, 2), 0);
        WaxBowl far = CHECK.told("guest a 99 0 9;guest b 99 0 0;guest c 99 97 0;guest d 99 0 0;fruit p 0 0;");
        CHECK.due("c doesn't hear a", far.ahead(2, 1, 0), 1);
        CHECK.due("all hear all", far.tried(4, 0, 2), 0);
        CHECK.due("nothing stays of it", far.ahead(2, 1, 0), 1);
        CHECK.due("what below", far.tried(-1, 0, 2), WaxBowl.NONE);
        CHECK.due("what beyond", far.tried(5, 0, 2), WaxBowl.NONE);
        for (int what : new int[] {0, 1, 3, 4}) {
            CHECK.due("i of " + what, far.tried(what, 1, 2), WaxBowl.NONE);
            CHECK.due("i of " + what, far.tried(what, -1, 2), WaxBowl.NONE);
        }
        CHECK.due("guest below", far.tried(2, -1, 2), WaxBowl.NONE);
        CHECK.due("guest beyond", far.tried(2, 4, 2), WaxBowl.NONE);
        CHECK.due("n below", far.tried(0, 0, -1), WaxBowl.NONE);
        CHECK.due("n beyond", far.tried(0, 0, 201), WaxBowl.NONE);
        CHECK.due("n at the end", far.tried(0, 0, 200), 4);
        CHECK.due("n 0", far.tried(0, 0, 0), 0);
        far.go(2);
        CHECK.due("more than now", far.tried(0, 0, 200), 3);
    }

    public static void main(String[] args) {
        ahead();
        draughtsAsItGoes();
        swooning();
        nextBites();
        eatenIn();
        tables();
        holding();
        calming();
        loaves();
        graces();
        chances();
        tries();
        CHECK.end();
    }
}
