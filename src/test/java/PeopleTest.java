/** Promises 19 to 22, 30, 31: who feeds best, duels, how warm it is, who hears whom. */
public final class PeopleTest {
    private static final Check CHECK = new Check("PeopleTest");
    private static final String SIX = "guest a 99 0 1;guest b 99 98 1;guest c 99 0 1;guest d 99 0 1;guest e 99 0 1;guest f 99 0 1;";

    private static void bestFed() {
        WaxBowl x = CHECK.told("guest a 60 30 3;guest b 70 40 5;guest c 65 60 2;guest d 90 20 9;fruit p 4 0;fruit q 2 1;");
        CHECK.due("d", x.bestFed(0), 3);
        CHECK.due("a and c by 13", x.bestFed(1), 26);
        CHECK.due("no such what", x.bestFed(2), WaxBowl.NONE);
        CHECK.due("no such what", x.bestFed(-1), WaxBowl.NONE);
        CHECK.due("nothing was fed", x.count(8), 0);
        x.bread(0, 29);
        CHECK.due("no more than the hunger: d by 1 and 13", x.bestFed(1), 14);
        CHECK.due("a by 7 and 7 is the first", x.bestFed(0), 0);
        WaxBowl alike = CHECK.told("guest a 60 30 5;guest b 70 30 5;fruit p 4 0;");
        CHECK.due("the first of several", alike.bestFed(0), 0);
        CHECK.due("by nine", alike.bestFed(1), 9);
        WaxBowl law = CHECK.told("guest a 60 30 5;guest b 70 50 5;guest c 70 98 5;fruit p 4 0;fruit q 9 0;law praise sweet * 100;");
        CHECK.due("a feeds b and c", law.bestFed(1), 148);
        CHECK.due("a", law.bestFed(0), 0);
        law.go(1);
        CHECK.due("the uppermost now", law.bestFed(1), 32);
        WaxBowl none = CHECK.told("guest a 60 0 0;fruit p 0 0;");
        CHECK.due("nobody hears it", none.bestFed(1), 0);
        CHECK.due("still it is best", none.bestFed(0), 0);
        none.go(200);
        CHECK.due("nobody is there", none.bestFed(0), -2);
        CHECK.due("nobody is there", none.bestFed(1), -2);
        CHECK.due("no fruits", CHECK.told("guest a 1 1 1;guest b 1 1 1;").bestFed(0), -2);
        CHECK.due("no fruits", CHECK.told("guest a 1 1 1;guest b 1 1 1;").bestFed(1), -2);
        WaxBowl marks = CHECK.told("guest a 60 30 1;guest b 70 30 5;fruit p 4 0;bite a 0;bite b 1;");
        marks.go(2);
        CHECK.due("less by marks", marks.bestFed(1), 7);
        WaxBowl fallen = CHECK.told("guest a 99 98 9;guest b 99 10 0;guest c 99 20 0;fruit p 0 0;law dare 0;law praise (step > 0) * wit;");
        fallen.go(1);
        CHECK.due("not who fainted", fallen.bestFed(0), 1);
        CHECK.due("by nothing", fallen.bestFed(1), 0);
    }

    private static void duels() {
        WaxBowl x = CHECK.told("guest a 60 30 3;guest b 70 40 5;guest c 0 0 0;guest d 0 50 9;guest e 19 25 5;guest f 19 29 5;");
        CHECK.due("two", x.rests(0, 1), 2);
        CHECK.due("praise, bite", x.rest(0, 1, 0), 1);
        CHECK.due("bite, praise", x.rest(0, 1, 1), 10);
        CHECK.due("no third", x.rest(0, 1, 2), -2);
        CHECK.due("k below", x.rest(0, 1, -1), WaxBowl.NONE);
        CHECK.due("none", x.rests(3, 2), 0);
        CHECK.due("no first", x.rest(3, 2, 0), -2);
        CHECK.due("all", x.rests(4, 5), 4);
        int[] all = {0, 1, 10, 11};
        for (int k = 0; k < 4; k++) {
            CHECK.due("rest " + k, x.rest(4, 5, k), all[k]);
        }
        CHECK.due("one, both praise", CHECK.told("guest a 99 0 9;guest b 99 0 9;").rests(0, 1), 1);
        CHECK.due("both praise", CHECK.told("guest a 99 0 9;guest b 99 0 9;").rest(0, 1, 0), 0);
        CHECK.due("both bite", CHECK.told("guest a 0 98 0;guest b 0 98 0;").rest(0, 1, 0), 11);
        CHECK.due("manners by 20 at 20", CHECK.told("guest a 20 25 5;guest b 20 25 5;").rests(0, 1), 3);
        CHECK.due("manners by 20 at 80", CHECK.told("guest a 80 98 1;guest b 80 98 1;").rests(0, 1), 3);
        CHECK.due("alike", x.rests(1, 1), WaxBowl.NONE);
        CHECK.due("below", x.rests(-1, 1), WaxBowl.NONE);
        CHECK.due("beyond", x.rests(1, 6), WaxBowl.NONE);
        CHECK.due("alike", x.rest(1, 1, 0), WaxBowl.NONE);
        CHECK.due("below", x.rest(-1, 1, 0), WaxBowl.NONE);
        CHECK.due("beyond", x.rest(1, 6, 0), WaxBowl.NONE);
        x.bread(4, 1);
        CHECK.due("hunger by 5 is cut", x.rests(4, 5), 3);
        CHECK.due("both praise", x.rest(4, 5, 0), 0);
        CHECK.due("the first one praises, the second one bites", x.rest(4, 5, 1), 1);
        CHECK.due("both bite", x.rest(4, 5, 2), 11);
        WaxBowl asymmetric = CHECK.told("guest a 99 98 0;guest b 0 0 9;");
        CHECK.due("a bites, b praises", asymmetric.rest(0, 1, 0), 10);
        CHECK.due("seen from b", asymmetric.rest(1, 0, 0), 1);
        CHECK.due("no more", asymmetric.rests(0, 1), 1);
        asymmetric.go(1);
        CHECK.due("who fainted, too", asymmetric.rests(0, 1), 1);
    }

    private static void warmth() {
        int[] cold = {0, 1, 36, 50, 99, 100};
        long[][] above = {{1, 1, 1}, {1, 99, 941480149401L}, {1, 16, 16777216}, {1, 1, 1}, {1, 1, 1}, {1, 0, 0}};
        long[][] below = {{1, 1, 1}, {1, 100, 1000000000000L}, {1, 25, 244140625}, {1, 2, 64}, {1, 100, 1000000000000L}, {1, 1, 1}};
        int[] steps = {0, 1, 6};
        for (int c = 0; c < cold.length; c++) {
            WaxBowl x = CHECK.told("cold " + cold[c] + ";");
            for (int i = 0; i < steps.length; i++) {
                CHECK.due("warm above, cold " + cold[c], x.warm(steps[i], 0), above[c][i]);
                CHECK.due("warm below, cold " + cold[c], x.warm(steps[i], 1), below[c][i]);
            }
        }
        WaxBowl x = CHECK.told("cold 30;");
        CHECK.due("n below", x.warm(-1, 0), WaxBowl.NONE);
        CHECK.due("n beyond", x.warm(7, 0), WaxBowl.NONE);
        CHECK.due("what below", x.warm(1, -1), WaxBowl.NONE);
        CHECK.due("what beyond", x.warm(1, 2), WaxBowl.NONE);
    }

    private static void chains() {
        WaxBowl x = CHECK.told(SIX);
        CHECK.due("oneself", x.chain(0, 0), 0);
        CHECK.due("heard", x.chain(0, 1), 1);
        CHECK.due("over two", x.chain(0, 2), 2);
        CHECK.due("across", x.chain(0, 3), 3);
        CHECK.due("the other way", x.chain(5, 1), 2);
        CHECK.due("below", x.chain(-1, 1), WaxBowl.NONE);
        CHECK.due("beyond", x.chain(1, 6), WaxBowl.NONE);
        CHECK.due("near 2", CHECK.told(SIX + "near 2;").chain(0, 3), 2);
        CHECK.due("near 3", CHECK.told(SIX + "near 3;").chain(0, 3), 1);
        x.go(1);
        CHECK.due("b isn't there", x.chain(0, 1), WaxBowl.NONE);
        CHECK.due("b isn't there", x.chain(1, 0), WaxBowl.NONE);
        CHECK.due("not to oneself", x.chain(1, 1), WaxBowl.NONE);
        CHECK.due("round about", x.chain(0, 2), 4);
        x.seat(1, 4);
        CHECK.due("b's seat is another one's now", x.chain(0, 2), 2);
        WaxBowl two = CHECK.told(SIX.replace("guest e 99 0", "guest e 99 98"));
        two.go(1);
        CHECK.due("it doesn't come there", two.chain(0, 2), -2);
        CHECK.due("it does", two.chain(2, 3), 1);
        CHECK.due("nobody need go", two.part(0, 2), 0);
    }

    private static void parts() {
        WaxBowl x = CHECK.told(SIX);
        CHECK.due("one on each side, the least", x.part(0, 3), 0b010010);
        CHECK.due("one on each side, the least", x.part(0, 2), 0b001010);
        CHECK.due("they hear one another", x.part(0, 1), -2);
        CHECK.due("alike", x.part(1, 1), WaxBowl.NONE);
        CHECK.due("below", x.part(-1, 1), WaxBowl.NONE);
        CHECK.due("beyond", x.part(1, 6), WaxBowl.NONE);
        CHECK.due("near 2: all others", CHECK.told(SIX + "near 2;").part(0, 3), 0b110110);
        x.go(1);
        CHECK.due("b isn't there", x.part(0, 1), WaxBowl.NONE);
        CHECK.due("b isn't there", x.part(1, 0), WaxBowl.NONE);
        CHECK.due("one of the others", x.part(0, 2), 0b001000);
        CHECK.due("they hear one another", x.part(2, 3), -2);
        CHECK.due("all are there still", x.count(5), 5);
    }

    public static void main(String[] args) {
        bestFed();
        duels();
        warmth();
        chains();
        parts();
        CHECK.end();
    }
}
