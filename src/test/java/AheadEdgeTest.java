/** The edges of promises 13 to 18, 28, 29, 33, 39, 40: what comes, in how many steps, tried otherwise, by chance. */
public final class AheadEdgeTest {
    private static final Check CHECK = new Check("AheadEdgeTest");
    private static final int NONE = WaxBowl.NONE;
    private static final int LEAST = Integer.MIN_VALUE;
    private static final int MOST = Integer.MAX_VALUE;
    /** Guests and fruits of Busy, in which eve (3) has fainted. */
    private static final int GUESTS = 5;
    private static final int FRUITS = 3;

    /** Each feeds the other one to 0 in every second step: a in odd ones, b in even ones; nobody ever bites. */
    private static final String LASTING = "guest a 99 0 9;guest b 99 0 9;fruit p 9 1;";
    private static final String SIX = "guest a 99 0 0;guest b 99 0 0;guest c 99 0 0;guest d 99 0 0;guest e 99 0 0;guest f 99 0 0;";

    /** The two of LASTING, who praise up to a step alone: behind the last praise that feeds it, a guest faints in the 98th step. */
    private static WaxBowl praisingBelow(int step) {
        return CHECK.told(LASTING + "law praise (step<" + step + ")*99;");
    }

    private static void aheadSoMany() {
        for (int n : new int[] {LEAST, -1, 201, MOST}) {
            for (int what = 0; what <= 4; what++) {
                int asked = what;
                CHECK.stays("ahead(" + n + ", " + what + ", 0)", x -> x.ahead(n, asked, 0), NONE);
            }
        }
        for (int what = 0; what <= 4; what++) {
            int asked = what;
            CHECK.stays("ahead(0, " + what + ", 0)", x -> x.ahead(0, asked, 0));
            CHECK.stays("ahead(200, " + what + ", 0)", x -> x.ahead(200, asked, 0));
        }
        WaxBowl x = CHECK.told(LASTING + "law dare step=199;");
        CHECK.due("bites in 0", x.ahead(0, 0, 0), 0);
        CHECK.due("bites in 199", x.ahead(199, 0, 0), 0);
        CHECK.due("bites in 200", x.ahead(200, 0, 0), 1);
        CHECK.due("manners of a in 199", x.ahead(199, 3, 0), 99);
        CHECK.due("manners of a in 200", x.ahead(200, 3, 0), 89);
        WaxBowl last = praisingBelow(102);
        CHECK.due("fainted in 198", last.ahead(198, 1, 0), 0);
        CHECK.due("fainted in 199", last.ahead(199, 1, 0), 1);
        CHECK.due("fainted in 200", last.ahead(200, 1, 0), 2);
        WaxBowl fed = CHECK.told(LASTING);
        CHECK.due("hunger of a in 0", fed.ahead(0, 2, 0), 0);
        CHECK.due("hunger of a in 199", fed.ahead(199, 2, 0), 2);
        CHECK.due("hunger of a in 200", fed.ahead(200, 2, 0), 1);
        CHECK.due("fed in 0", fed.ahead(0, 4, 0), 0);
        CHECK.due("fed in 2", fed.ahead(2, 4, 0), 1);
        CHECK.due("fed in 200", fed.ahead(200, 4, 0), 397);
    }

    private static void aheadOfWhat() {
        for (int what : new int[] {LEAST, -1, 5, MOST}) {
            CHECK.stays("ahead(5, " + what + ", 0)", x -> x.ahead(5, what, 0), NONE);
        }
        CHECK.stays("ahead(4, 0, 0)", x -> x.ahead(4, 0, 0), 1);
        CHECK.stays("ahead(3, 0, 0)", x -> x.ahead(3, 0, 0), 0);
        for (int wrong : new int[] {LEAST, -1, GUESTS, MOST}) {
            CHECK.stays("ahead(5, 2, " + wrong + ")", x -> x.ahead(5, 2, wrong), NONE);
            CHECK.stays("ahead(5, 3, " + wrong + ")", x -> x.ahead(5, 3, wrong), NONE);
            CHECK.stays("ahead(4, 0, " + wrong + "): it isn't looked at", x -> x.ahead(4, 0, wrong), 1);
            CHECK.stays("ahead(0, 1, " + wrong + "): it isn't looked at", x -> x.ahead(0, 1, wrong), 0);
            CHECK.stays("ahead(0, 4, " + wrong + "): it isn't looked at", x -> x.ahead(0, 4, wrong), 0);
        }
        CHECK.stays("ahead(9, 2, 3), who fainted", x -> x.ahead(9, 2, 3), 99);
        CHECK.stays("ahead(0, 3, 4), the last", x -> x.ahead(0, 3, GUESTS - 1), 90);
        CHECK.due("no guests, bites", new WaxBowl().ahead(200, 0, 0), 0);
        CHECK.due("no guests, hunger", new WaxBowl().ahead(200, 2, 0), NONE);
        CHECK.due("no guests, fed", new WaxBowl().ahead(200, 4, 0), 0);
    }

    private static void aheadIsMoreThanNow() {
        WaxBowl x = CHECK.told("guest a 0 98 0;guest b 99 98 9;guest c 0 98 0;fruit p 9 0;");
        CHECK.due("a bites wax: all faint", x.ahead(1, 1, 0), 3);
        x.go(1);
        CHECK.due("no bites more", x.ahead(200, 0, 0), 0);
        CHECK.due("no more fainted", x.ahead(200, 1, 0), 0);
        CHECK.due("no more fed", x.ahead(200, 4, 0), 0);
        CHECK.due("one bite so far", x.count(6), 1);
    }

    private static void swoonTo199() {
        CHECK.due("1: this one", CHECK.told("guest a 99 98 0;").swoon(0), 1);
        CHECK.due("2", CHECK.told("guest a 99 97 0;").swoon(0), 2);
        CHECK.due("99", CHECK.told("guest a 99 0 0;").swoon(0), 99);
        WaxBowl x = praisingBelow(102);
        CHECK.due("199", x.swoon(1), 199);
        CHECK.due("200 isn't by then", x.swoon(0), -2);
        x.go(1);
        CHECK.due("198", x.swoon(1), 198);
        CHECK.due("199 then", x.swoon(0), 199);
        x.go(197);
        CHECK.due("1", x.swoon(1), 1);
        x.go(1);
        CHECK.due("0: it did", x.swoon(1), 0);
        CHECK.due("1", x.swoon(0), 1);
        CHECK.due("never", CHECK.told(LASTING).swoon(0), -2);
        for (int wrong : new int[] {LEAST, -1, GUESTS, MOST}) {
            CHECK.stays("swoon(" + wrong + ")", y -> y.swoon(wrong), NONE);
        }
        CHECK.stays("swoon(3)", y -> y.swoon(3), 0);
        CHECK.stays("swoon(4)", y -> y.swoon(GUESTS - 1));
        CHECK.due("no guests", new WaxBowl().swoon(0), NONE);
    }

    private static void nextBiteTo199() {
        WaxBowl first = CHECK.told(LASTING + "law dare step=0;");
        CHECK.due("1: this one", first.nextBite(0), 1);
        CHECK.due("a", first.nextBite(1), 0);
        WaxBowl last = CHECK.told(LASTING + "law dare step=198;");
        CHECK.due("199", last.nextBite(0), 199);
        CHECK.due("a, in 199", last.nextBite(1), 0);
        WaxBowl late = CHECK.told(LASTING + "law dare step=199;");
        CHECK.due("200 isn't by then", late.nextBite(0), -2);
        CHECK.due("nobody by then", late.nextBite(1), -2);
        late.go(1);
        CHECK.due("199 then", late.nextBite(0), 199);
        CHECK.due("b", late.nextBite(1), 1);
        late.go(198);
        CHECK.due("1 then", late.nextBite(0), 1);
        late.go(1);
        CHECK.due("not again", late.nextBite(0), -2);
        CHECK.due("no guests", new WaxBowl().nextBite(0), -2);
        CHECK.due("no guests", new WaxBowl().nextBite(1), -2);
        for (int wrong : new int[] {LEAST, -1, 2, MOST}) {
            CHECK.stays("nextBite(" + wrong + ")", x -> x.nextBite(wrong), NONE);
        }
        CHECK.stays("nextBite(0)", x -> x.nextBite(0), 4);
        CHECK.stays("nextBite(1)", x -> x.nextBite(1), 0);
    }

    private static void eatenTo199() {
        WaxBowl first = CHECK.told(LASTING + "law dare step=0;");
        CHECK.due("1: this one", first.eatenIn(0), 1);
        first.go(1);
        CHECK.due("0: it is", first.eatenIn(0), 0);
        CHECK.due("199", CHECK.told(LASTING + "law dare step=198;").eatenIn(0), 199);
        WaxBowl late = CHECK.told(LASTING + "law dare step=199;");
        CHECK.due("200 isn't by then", late.eatenIn(0), -2);
        late.go(1);
        CHECK.due("199 then", late.eatenIn(0), 199);
        CHECK.due("never", CHECK.told(LASTING).eatenIn(0), -2);
        CHECK.due("wax never", CHECK.told("guest a 0 0 0;fruit p 0 0;law dare 1;").eatenIn(0), -2);
        for (int wrong : new int[] {LEAST, -1, FRUITS, MOST}) {
            CHECK.stays("eatenIn(" + wrong + ")", x -> x.eatenIn(wrong), NONE);
        }
        CHECK.stays("eatenIn(1)", x -> x.eatenIn(1), 0);
        CHECK.stays("eatenIn(2)", x -> x.eatenIn(2), -2);
        CHECK.due("no fruits", CHECK.told("guest a 0 0 0;").eatenIn(0), NONE);
    }

    private static void tableOfWhat() {
        for (int wrong : new int[] {LEAST, -1, 7, MOST}) {
            CHECK.stays("table(" + wrong + ")", x -> x.table(wrong), NONE);
        }
        for (int what = 0; what <= 6; what++) {
            int asked = what;
            CHECK.stays("table(" + what + ")", x -> x.table(asked));
        }
        CHECK.stays("table(0), dot stays there", x -> x.table(0), 4);
        CHECK.stays("table(5), there are not so many", x -> x.table(5), -2);
        for (int n = 0; n <= 6; n++) {
            WaxBowl x = CHECK.told(SIX.substring(0, 15 * n));
            for (int what = 0; what < 6; what++) {
                CHECK.due("table(" + what + ") of " + n, x.table(what), what < n ? what : -2);
            }
            CHECK.due("table(6) of " + n, x.table(6), 0);
            CHECK.due("table(7) of " + n, x.table(7), NONE);
        }
    }

    private static void tableOfFortySteps() {
        CHECK.due("58: not in 40", CHECK.told("guest a 99 58 0;").table(6), 0);
        CHECK.due("59: in the 40th", CHECK.told("guest a 99 59 0;").table(6), 1);
        CHECK.due("98: at once", CHECK.told("guest a 99 98 0;").table(6), 1);
        WaxBowl x = CHECK.told("guest a 99 98 0;guest b 99 58 0;");
        x.go(1);
        CHECK.due("a did: b alone more", x.table(6), 1);
        CHECK.due("who fainted sits there, too", x.table(0), 0);
        CHECK.due("all six", CHECK.told(SIX.replace(" 0 0;", " 98 0;")).table(6), 6);
        x.go(200);
        CHECK.due("no more", x.table(6), 0);
    }

    /** Of 120 orders one alone keeps all from fainting: five praises by 1, each at its step, of which each guest needs four. */
    private static void tableOfEveryOrder() {
        int orders = 0;
        for (int code = 0; code < 3125; code++) {
            int[] seats = {1 + code % 5, 1 + code / 5 % 5, 1 + code / 25 % 5, 1 + code / 125 % 5, 1 + code / 625};
            if (java.util.Arrays.stream(seats).distinct().count() == 5) {
                orders++;
                tableOfOrder(seats);
            }
        }
        CHECK.due("orders", orders, 120);
    }

    /** Seats of b, c, d, e, f, which are their WIT. */
    private static void tableOfOrder(int[] seats) {
        StringBuilder text = new StringBuilder("guest a 99 0 0;");
        for (int i = 0; i < 5; i++) {
            text.append("guest ").append((char) ('b' + i)).append(" 99 62 ").append(seats[i]).append(';');
        }
        String laws = "fruit p 0 0;near 5;law praise (wit=step)*(step>0)*(step<6);";
        WaxBowl x = CHECK.told(text + laws);
        CHECK.due("table(0)", x.table(0), 0);
        for (int i = 0; i < 5; i++) {
            CHECK.due("table(" + seats[i] + ") of " + text, x.table(seats[i]), i + 1);
        }
        CHECK.due("nobody faints", x.table(6), 0);
        WaxBowl hungrier = CHECK.told(text.toString().replace(" 62 ", " 63 ") + laws);
        CHECK.due("by one more all but a faint, however they sit", hungrier.table(6), 5);
        CHECK.due("so it is the first order", hungrier.table(1), 1);
    }

    private static void tableFewestBelowOneAndSix() {
        WaxBowl x = CHECK.told("guest a 99 0 0;guest b 99 59 1;guest c 99 0 2;fruit p 0 0;law praise wit=2 and step=1;");
        CHECK.due("as they sit b faints", x.ahead(40, 1, 0), 1);
        CHECK.due("c on seat 1 praises in step 1", x.table(1), 2);
        CHECK.due("b on seat 2", x.table(2), 1);
        CHECK.due("then nobody faints", x.table(6), 0);
        WaxBowl all = CHECK.told(SIX.replace(" 0 0;", " 98 0;"));
        for (int what = 0; what < 6; what++) {
            CHECK.due("all faint, however they sit: table(" + what + ")", all.table(what), what);
        }
        CHECK.due("six", all.table(6), 6);
    }

    private static void tableSeatZeroStays() {
        WaxBowl x = CHECK.told(SIX);
        x.seat(0, 5);
        int[] due = {5, 0, 1, 2, 3, 4, 0};
        for (int what = 0; what <= 6; what++) {
            CHECK.due("table(" + what + ")", x.table(what), due[what]);
        }
    }

    private static void holdTo999() {
        CHECK.due("0 without guests", new WaxBowl().hold(), 0);
        CHECK.due("0 without guests, but fruits", CHECK.told("fruit p 1 1;").hold(), 0);
        WaxBowl x = CHECK.told("guest a 99 98 0;guest b 99 97 0;");
        CHECK.due("2, all have", x.hold(), 2);
        x.go(1);
        CHECK.due("1", x.hold(), 1);
        x.go(1);
        CHECK.due("0: now", x.hold(), 0);
        x.wake(1);
        CHECK.due("woken: 49", x.hold(), 49);
        CHECK.due("998", praisingBelow(900).hold(), 998);
        CHECK.due("999", praisingBelow(901).hold(), 999);
        WaxBowl late = praisingBelow(902);
        CHECK.due("1000 isn't by then", late.hold(), -2);
        late.go(1);
        CHECK.due("999 then", late.hold(), 999);
        CHECK.due("never", CHECK.told(LASTING).hold(), -2);
        CHECK.stays("hold()", y -> y.hold(), -2);
    }

    private static void calmForThirty() {
        String three = "guest a 99 0 9;guest b 99 0 9;guest c 99 0 9;fruit p 9 0;";
        CHECK.due("a bite at 0", CHECK.told(three + "law dare step=0;").calm(), 0b001);
        CHECK.due("a bite at 29", CHECK.told(three + "law dare step=29;").calm(), 0b100);
        WaxBowl late = CHECK.told(three + "law dare step=30;");
        CHECK.due("a bite at 30", late.calm(), 0);
        late.go(1);
        CHECK.due("then it is by a", late.calm(), 0b001);
        CHECK.due("told bites, too", CHECK.told(three + "bite b 28;bite c 29;").calm(), 0b110);
        CHECK.due("told behind it", CHECK.told(three + "bite a 30;bite b 31;").calm(), 0);
        CHECK.due("nobody bites", CHECK.told(three).calm(), 0);
        CHECK.due("all bite", CHECK.told(SIX + "fruit p 0 0;law dare 1;").calm(), 0b111111);
        CHECK.due("no guests", new WaxBowl().calm(), 0);
        CHECK.due("no fruits", CHECK.told("guest a 0 98 0;law dare 1;").calm(), 0);
        CHECK.stays("calm()", x -> x.calm(), 0b00001);
    }

    private static void calmFewestAndLeast() {
        String three = "guest a 99 0 1;guest b 99 0 2;guest c 99 0 3;fruit p 0 0;law praise 99;law dare ";
        CHECK.due("one of three, the least bits", CHECK.told(three + "there>2;").calm(), 0b001);
        CHECK.due("two of three, the least bits", CHECK.told(three + "there>1;").calm(), 0b011);
        CHECK.due("c alone ahead of a and b", CHECK.told(three + "wit=3 and there>1;").calm(), 0b100);
        WaxBowl gone = CHECK.told("guest a 99 98 0;guest b 99 0 0;guest c 99 0 0;fruit p 0 0;law dare step>0;law praise 0;");
        gone.go(1);
        CHECK.due("who fainted isn't sent away", gone.calm(), 0b110);
        CHECK.due("all are as they were", gone.count(5), 2);
    }

    private static void loafOfOnes() {
        for (int n : new int[] {LEAST, -1, 0, 100, MOST}) {
            CHECK.stays("loaf(0, " + n + ")", x -> x.loaf(0, n), NONE);
        }
        for (int wrong : new int[] {LEAST, -1, GUESTS, MOST}) {
            CHECK.stays("loaf(" + wrong + ", 5)", x -> x.loaf(wrong, 5), NONE);
        }
        CHECK.stays("loaf(3, 5), she isn't there", x -> x.loaf(3, 5), NONE);
        CHECK.stays("loaf(0, 1)", x -> x.loaf(0, 1), 0);
        CHECK.stays("loaf(4, 99)", x -> x.loaf(GUESTS - 1, 99));
        CHECK.due("no guests", new WaxBowl().loaf(0, 1), NONE);
    }

    private static void loafTheLeast() {
        WaxBowl x = CHECK.told("guest a 99 98 0;guest b 99 0 0;");
        CHECK.due("1 for 1", x.loaf(0, 1), 1);
        CHECK.due("97 for 97", x.loaf(0, 97), 97);
        CHECK.due("98 for 98", x.loaf(0, 98), 98);
        CHECK.due("by none for 99", x.loaf(0, 99), -2);
        CHECK.due("0 for 98", x.loaf(1, 98), 0);
        CHECK.due("by none for 99", x.loaf(1, 99), -2);
        CHECK.due("0 for 99, as it is praised", CHECK.told(LASTING).loaf(0, 99), 0);
        CHECK.due("97 is there behind one", CHECK.told("guest a 99 97 0;").loaf(0, 1), 0);
        WaxBowl cold = CHECK.told("guest a 99 98 0;cold 50;");
        CHECK.due("with draughts 3 for 1", cold.loaf(0, 1), 3);
        CHECK.due("with draughts 96 for 32", cold.loaf(0, 32), 96);
        CHECK.due("with draughts by none for 33", cold.loaf(0, 33), -2);
        // It bites with hunger 51 alone, and real is what is uppermost in even steps: so bread 1, 3, 5 .. help one with 44.
        String odd = "guest a 99 % 0;fruit p 0 1;fruit q 0 0;law dare hunger=51;";
        CHECK.due("more may be worse: 1", CHECK.told(odd.replace("%", "44")).loaf(0, 90), 1);
        CHECK.due("more may be worse: 0", CHECK.told(odd.replace("%", "45")).loaf(0, 90), 0);
    }

    private static void graceSoMany() {
        for (int n : new int[] {LEAST, -1, 201, MOST}) {
            CHECK.stays("grace(" + n + ")", x -> x.grace(n), NONE);
        }
        CHECK.stays("grace(0)", x -> x.grace(0), 56 + 20 + 65 + 90);
        CHECK.stays("grace(200)", x -> x.grace(200));
        WaxBowl x = CHECK.told(LASTING + "law dare step=199;");
        CHECK.due("199", x.grace(199), 198);
        CHECK.due("200", x.grace(200), 188);
        WaxBowl gone = CHECK.told("guest a 99 98 0;guest b 10 97 0;");
        CHECK.due("0", gone.grace(0), 109);
        CHECK.due("1", gone.grace(1), 10);
        CHECK.due("2", gone.grace(2), 0);
        CHECK.due("six", CHECK.told(SIX).grace(0), 594);
        WaxBowl fewer = CHECK.told(SIX);
        Check.tell(fewer, SIX.substring(0, 75));
        CHECK.due("five behind a text of six", fewer.grace(0), 495);
        CHECK.due("no guests", new WaxBowl().grace(200), 0);
    }

    private static void chanceOfOnes() {
        for (int seed : new int[] {LEAST, -2, -1}) {
            CHECK.stays("chance(" + seed + ", 5, 0)", x -> x.chance(seed, 5, 0), NONE);
        }
        for (int n : new int[] {LEAST, -1, 0, 100, MOST}) {
            CHECK.stays("chance(5, " + n + ", 0)", x -> x.chance(5, n, 0), NONE);
        }
        for (int wrong : new int[] {LEAST, -1, GUESTS, MOST}) {
            CHECK.stays("chance(5, 5, " + wrong + ")", x -> x.chance(5, 5, wrong), NONE);
        }
        CHECK.stays("chance(0, 1, 0)", x -> x.chance(0, 1, 0), 0);
        CHECK.stays("chance(most, 99, 4)", x -> x.chance(MOST, 99, GUESTS - 1));
        CHECK.stays("chance(0, 1, 3), who fainted", x -> x.chance(0, 1, 3), 10);
        CHECK.due("no guests", new WaxBowl().chance(0, 1, 0), NONE);
    }

    private static void chanceTenTimes() {
        WaxBowl x = CHECK.told("guest a 99 0 0;guest b 99 96 0;cold 50;");
        CHECK.due("in 32 never", x.chance(7, 32, 0), 0);
        CHECK.due("in 99 always", x.chance(7, 99, 0), 10);
        WaxBowl calm = CHECK.told("guest a 99 0 0;cold 0;");
        CHECK.due("98, without draughts", calm.chance(7, 98, 0), 0);
        CHECK.due("99, without draughts", calm.chance(7, 99, 0), 10);
        for (int seed : new int[] {0, 1, 99999, 2147483646, 2147483647}) {
            CHECK.due("b in 1, seed " + seed, x.chance(seed, 1, 1), draughtsOfSecond(seed));
        }
    }

    /** Of ten times one step of two guests: how often the second one feels a draught, by cold 50. */
    private static int draughtsOfSecond(long number) {
        int found = 0;
        for (int i = 1; i <= 20; i++) {
            number = (number * 1103515245L + 12345L) % 2147483648L;
            found += i % 2 == 0 && number / 65536 % 100 < 50 ? 1 : 0;
        }
        return found;
    }

    private static void triedOfOnes() {
        for (int what : new int[] {LEAST, -1, 5, MOST}) {
            CHECK.stays("tried(" + what + ", 0, 5)", x -> x.tried(what, 0, 5), NONE);
        }
        for (int n : new int[] {LEAST, -1, 201, MOST}) {
            for (int what = 0; what <= 4; what++) {
                int asked = what;
                CHECK.stays("tried(" + what + ", 0, " + n + ")", x -> x.tried(asked, 0, n), NONE);
            }
        }
        for (int what : new int[] {0, 1, 3, 4}) {
            for (int i : new int[] {LEAST, -1, 1, MOST}) {
                CHECK.stays("tried(" + what + ", " + i + ", 5)", x -> x.tried(what, i, 5), NONE);
            }
        }
        for (int i : new int[] {LEAST, -1, GUESTS, MOST}) {
            CHECK.stays("tried(2, " + i + ", 5)", x -> x.tried(2, i, 5), NONE);
        }
        for (int i = 0; i < GUESTS; i++) {
            int asked = i;
            CHECK.stays("tried(2, " + i + ", 0)", x -> x.tried(2, asked, 0), 0);
        }
        for (int what = 0; what <= 4; what++) {
            int asked = what;
            CHECK.stays("tried(" + what + ", 0, 0)", x -> x.tried(asked, 0, 0), 0);
            CHECK.stays("tried(" + what + ", 0, 200)", x -> x.tried(asked, 0, 200));
        }
        CHECK.due("no guests, 2", new WaxBowl().tried(2, 0, 5), NONE);
        CHECK.due("no guests, 0", new WaxBowl().tried(0, 0, 200), 0);
    }

    private static void triedSoMany() {
        WaxBowl x = praisingBelow(102);
        for (int what : new int[] {0, 1, 3, 4}) {
            CHECK.due("tried(" + what + ", 0, 198)", x.tried(what, 0, 198), 0);
            CHECK.due("tried(" + what + ", 0, 199)", x.tried(what, 0, 199), 1);
            CHECK.due("tried(" + what + ", 0, 200)", x.tried(what, 0, 200), 2);
        }
        CHECK.due("a never praises: b faints in 99", x.tried(2, 0, 98), 0);
        CHECK.due("a never praises: b faints in 99", x.tried(2, 0, 99), 1);
        CHECK.due("b never praises: a faints in 99", x.tried(2, 1, 99), 1);
    }

    private static void triedOtherwise() {
        WaxBowl cold = CHECK.told("guest a 99 96 0;cold 50;");
        CHECK.due("draughts: it faints in 1", cold.ahead(1, 1, 0), 1);
        CHECK.due("no draughts: not in 2", cold.tried(0, 0, 2), 0);
        CHECK.due("no draughts: in 3", cold.tried(0, 0, 3), 1);
        WaxBowl real = CHECK.told("guest a 0 97 0;fruit p 0 1;");
        CHECK.due("it eats", real.ahead(2, 1, 0), 0);
        CHECK.due("nobody bites: not in 1", real.tried(1, 0, 1), 0);
        CHECK.due("nobody bites: in 2", real.tried(1, 0, 2), 1);
        WaxBowl wax = CHECK.told("guest a 0 98 0;fruit p 0 0;");
        CHECK.due("wax", wax.ahead(1, 1, 0), 1);
        CHECK.due("all are real: not in 98", wax.tried(3, 0, 98), 0);
        CHECK.due("all are real: in 99, as it eats once", wax.tried(3, 0, 99), 1);
        WaxBowl far = CHECK.told("guest a 99 0 1;guest b 99 0 0;guest c 99 0 0;guest d 99 98 0;guest e 99 0 0;guest f 99 0 0;fruit p 0 0;near 2;");
        CHECK.due("three seats apart", far.ahead(1, 1, 0), 1);
        CHECK.due("all hear all: not in 1", far.tried(4, 0, 1), 0);
        CHECK.due("all hear all: in 2", far.tried(4, 0, 2), 1);
        CHECK.due("nothing stays of it", far.ahead(1, 1, 0), 1);
    }

    public static void main(String[] args) {
        CHECK.test("13: AHEAD n 0 .. 200", AheadEdgeTest::aheadSoMany);
        CHECK.test("13: NONE: no such ones; of a GUEST (else it isn't looked at)", AheadEdgeTest::aheadOfWhat);
        CHECK.test("13: BITES more, how many more FAINTED, how much more FED", AheadEdgeTest::aheadIsMoreThanNow);
        CHECK.test("14: SWOON in 199 at most (1: this one; 0: it did); -2; NONE", AheadEdgeTest::swoonTo199);
        CHECK.test("15: in 199 at most (1: this one); -2; NONE for another what", AheadEdgeTest::nextBiteTo199);
        CHECK.test("16: TABLE, what 0 .. 5, 6; -2: not so many; NONE", AheadEdgeTest::tableOfWhat);
        CHECK.test("16: in 40 STEPS as it goes, how many more", AheadEdgeTest::tableOfFortySteps);
        CHECK.test("16: SEATS by which fewest FAINT, be it any order", AheadEdgeTest::tableOfEveryOrder);
        CHECK.test("16: fewest: none ahead of one; six, however they sit", AheadEdgeTest::tableFewestBelowOneAndSix);
        CHECK.test("16: the one that is on SEAT 0 now stays there", AheadEdgeTest::tableSeatZeroStays);
        CHECK.test("17: HOLD in 999 at most (0: now; without GUESTS, too); -2", AheadEdgeTest::holdTo999);
        CHECK.test("18: CALM: nobody BITES in 30 STEPS", AheadEdgeTest::calmForThirty);
        CHECK.test("18: the fewest that are THERE, of several the least", AheadEdgeTest::calmFewestAndLeast);
        CHECK.test("28: in 199 at most (1: this one; 0: it is); -2; NONE", AheadEdgeTest::eatenTo199);
        CHECK.test("29: LOAF n 1 .. 99; NONE: no such ones, not THERE", AheadEdgeTest::loafOfOnes);
        CHECK.test("29: the least bread 0 .. 99; -2: by none", AheadEdgeTest::loafTheLeast);
        CHECK.test("33: n STEPS 0 .. 200; NONE: no such n", AheadEdgeTest::graceSoMany);
        CHECK.test("39: a seed 0 .. 2147483647, n 1 .. 99; NONE: no such ones", AheadEdgeTest::chanceOfOnes);
        CHECK.test("39: in how many of ten times, 0 .. 10", AheadEdgeTest::chanceTenTimes);
        CHECK.test("40: NONE: no such ones (i 0 of all but 2)", AheadEdgeTest::triedOfOnes);
        CHECK.test("40: TRIED n 0 .. 200", AheadEdgeTest::triedSoMany);
        CHECK.test("40: how many more FAINTED otherwise, at the STEP from which it differs", AheadEdgeTest::triedOtherwise);
        CHECK.end();
    }
}
