/** Promises 1 to 5: a new object, the tape, the text, its faults, names. */
public final class TextTest {
    private static final Check CHECK = new Check("TextTest");

    private static String times(String s, int n) {
        return s.repeat(n);
    }

    private static void newObject() {
        WaxBowl x = new WaxBowl();
        for (int what = 0; what <= 12; what++) {
            CHECK.due("new: count(" + what + ")", x.count(what), 0);
        }
        CHECK.due("new: fault(0)", x.fault(0), 0);
        CHECK.due("new: fault(1)", x.fault(1), WaxBowl.NONE);
        CHECK.due("new: no image", x.back(), WaxBowl.NONE);
        CHECK.due("new: no cold", x.warm(1, 0), 1);
        CHECK.due("new: text(1)", x.text(1), -2);
        CHECK.due("new: text(0)", x.text(0), 0);
        CHECK.due("NONE", WaxBowl.NONE, -1);
    }

    private static void feeding() {
        WaxBowl x = new WaxBowl();
        for (int i = 1; i <= 35; i++) {
            CHECK.due("feed " + i, x.feed(0x20202020, 0x20202020, 0x20202020, 0x20202020, 0x20202020), 20 * i);
        }
        CHECK.due("feed beyond 700", x.feed(0, 0, 0, 0, 0), WaxBowl.NONE);
        CHECK.due("text of 701", x.text(701), -2);
        CHECK.due("text of 700 blanks", x.text(700), 0);
        CHECK.due("feed behind text", x.feed(0x6e656172, 0x20353b20, 0x20202020, 0x20202020, 0x20202020), 20);
        CHECK.due("near 5; highest byte first", x.text(8), 1);
        CHECK.due("a byte of 255", x.feed(-1, 0, 0, 0, 0), 20);
        CHECK.due("it is none", x.text(1), -1);
        CHECK.due("its fault", x.fault(0), 1);
        CHECK.due("its place", x.fault(1), 0);
        CHECK.due("all five", x.feed(0x6e656172, 0x0a352020, 0x3b636f6c, 0x64202020, 0x3939203b), 20);
        CHECK.due("near and cold", x.text(20), 2);
        for (int i = 0; i < 35; i++) {
            x.feed(0x29292929, 0x29292929, 0x29292929, 0x29292929, 0x29292929);
        }
        CHECK.due("700 tokens", x.text(700), WaxBowl.NONE);
        CHECK.due("their fault", x.fault(1), 0);
        CHECK.due("warm of cold 99", x.warm(1, 0), 1);
    }

    private static void textKeepsOrBegins() {
        WaxBowl x = CHECK.told("guest a 9 8 7;guest b 1 2 3;fruit p 1 0;law dare 1 + 1;bite a 3;");
        CHECK.due("seat", x.seat(0, 1), true);
        CHECK.due("go", x.go(3), 3);
        CHECK.due("seat again", x.seat(0, 1), true);
        CHECK.due("see", x.see(1, 0, 1, true), 0);
        CHECK.due("known", x.known(0), true);
        CHECK.due("keep", x.keep(), 3);
        Check.feedAll(x, "near 1;near 2;");
        CHECK.due("text(-1)", x.text(-1), -2);
        CHECK.due("text(21)", x.text(21), -2);
        CHECK.due("the fault stays of an earlier one", x.fault(0), 0);
        CHECK.due("the tape stayed", x.text(14), WaxBowl.NONE);
        CHECK.due("fault", x.fault(0), 3);
        CHECK.due("place", x.fault(1), 7);
        CHECK.due("no such what", x.fault(2), WaxBowl.NONE);
        CHECK.due("no such what", x.fault(-1), WaxBowl.NONE);
        CHECK.due("the tape is empty", x.text(1), -2);
        CHECK.due("the fault stays with -2", x.fault(0), 3);
        int[] stays = {2, 1, 1, 3, 3, 2, 3, 0, 0, x.count(9), 1, 0, 1};
        for (int what = 0; what <= 12; what++) {
            CHECK.due("all stays: count(" + what + ")", x.count(what), stays[what]);
        }
        CHECK.due("undo stays", x.undo(), 0);
        CHECK.due("the image stays", x.back(), 3);
        CHECK.due("seat once more", x.seat(0, 1), true);
        Check.feedAll(x, "guest c 1 2 3;guest d 4 5 6;guest e 1 1 1;");
        CHECK.due("the first n bytes alone", x.text(28), 2);
        CHECK.due("no fault", x.fault(0), 0);
        CHECK.due("no place", x.fault(1), WaxBowl.NONE);
        CHECK.due("the rest is gone", x.text(1), -2);
        int[] begun = {2, 0, 0, 0, 0, 2, 0, 0, 0, 7, 0, 0, 0};
        for (int what = 0; what <= 12; what++) {
            CHECK.due("begun: count(" + what + ")", x.count(what), begun[what]);
        }
        CHECK.due("no image", x.back(), WaxBowl.NONE);
        CHECK.due("nothing to undo", x.undo(), WaxBowl.NONE);
        CHECK.due("seats by numbers", x.guest(0, 3), 0);
        CHECK.due("nobody bit", x.guest(0, 6), 0);
        CHECK.due("see", x.see(1, 0, 1, true), 0);
        CHECK.due("all are known again", x.count(11), 1);
        CHECK.due("near, cold, laws are those of the new text", x.warm(1, 1), 1);
    }

    private static void textBeginsAnew() {
        WaxBowl x = CHECK.told("guest a 5 60 1;fruit p 1 1;cold 100;near 5;law praise 7;seed 9;");
        x.go(30);
        CHECK.due("eaten", x.fruit(0, 2), 1);
        CHECK.due("fainted", x.go(200), 230);
        CHECK.due("nobody is there", x.count(5), 0);
        CHECK.due("told", Check.tell(x, "guest a 5 6 1;guest b 99 20 1;guest c 99 20 1;guest d 99 20 1;fruit p 1 1;"), 5);
        CHECK.due("all there", x.count(5), 4);
        CHECK.due("no marks", x.fruit(0, 3), 0);
        CHECK.due("nothing eaten", x.fruit(0, 2), 0);
        CHECK.due("nothing fed", x.fruit(0, 4), 0);
        CHECK.due("step 0", x.count(4), 0);
        CHECK.due("no law", x.law(0, 0, 0), Long.MIN_VALUE);
        CHECK.due("near is 1 without", x.guest(0, 5), 0b1010);
        CHECK.due("cold is 0 without", x.warm(6, 0), 1);
    }

    /** A third and a fourth text have nothing of the first ones. */
    private static void textsBehindOneAnother() {
        WaxBowl x = CHECK.told("guest a 5 60 1;guest b 5 60 1;fruit p 1 1;bite a 3;cold 100;near 5;seed 9;"
                + "law praise 7;law dare 1;law shock 2;");
        CHECK.due("a fault", Check.tell(x, "guest a 5 60 1;fruit p 1 1;bite a 3;near 3;cold 7;seed 8;law dare wit;law praise 3;law"), -1);
        CHECK.due("the text stays", x.count(3), 3);
        CHECK.due("its laws stay", x.law(0, 0, 0), 7);
        CHECK.due("its cold stays", x.warm(1, 0), 0);
        for (int round = 0; round < 3; round++) {
            CHECK.due("nothing", x.text(0), 0);
            for (int what = 0; what <= 12; what++) {
                CHECK.due("nothing: count(" + what + ")", x.count(what), 0);
            }
            CHECK.due("no cold", x.warm(1, 0), 1);
            CHECK.due("told anew", Check.tell(x, "fruit q 1 1;guest c 99 0 1;guest d 99 0 1;guest e 99 0 1;guest f 99 0 1;"), 5);
            CHECK.due("near 1", x.guest(0, 5), 0b1010);
            for (int law = 0; law < 3; law++) {
                CHECK.due("no law " + law, x.law(law, 0, 0), Long.MIN_VALUE);
            }
            CHECK.due("told anew", Check.tell(x, "guest a 99 0 0;cold 50;"), 2);
            x.go(4);
            CHECK.due("seed 0 without", x.guest(0, 1), 8);
            CHECK.due("told anew", Check.tell(x, "guest a 99 0 0;cold 50;seed 321;law dare 1;law praise 2;law shock 3;near 2;"), 7);
        }
    }

    private static void wrongTokens() {
        CHECK.fault("Guest a 1 1 1;", 1, 0);
        CHECK.fault("guests a 1 1 1;", 1, 0);
        CHECK.fault("guest abcdefg 1 1 1;", 1, 6);
        CHECK.fine("guest abcdef 1 1 1;", 1);
        for (String word : "guest fruit bite near cold seed law praise dare shock or and not manner hunger wit sweet marks there step"
                .split(" ")) {
            CHECK.fault("guest " + word + " 1 1 1;", 1, 6);
        }
        CHECK.fault("guest a 1 1;", 1, 11);
        CHECK.fault("guest a 1 1 1", 1, 13);
        CHECK.fault("guest a 1 1 1  ", 1, 15);
        CHECK.fault("guest a 1 1 1 1;", 1, 14);
        CHECK.fault("guest 1 1 1 1;", 1, 6);
        CHECK.fault("guest a b 1 1;", 1, 8);
        CHECK.fault(";", 1, 0);
        CHECK.fault("near 1;;", 1, 7);
        CHECK.fault("near 1 near 1;", 1, 7);
        CHECK.fault("near\t1;", 1, 4);
        CHECK.fine("\n near\n1\n;\n ", 1);
        CHECK.fine("near1;guest a1 1 01;cold 0000000000000000050;", 3);
        CHECK.fault("a", 1, 0);
        CHECK.fault("1;", 1, 0);
        CHECK.fault("near 1!;", 1, 6);
        CHECK.fault("near (;", 1, 5);
        CHECK.fault("bite 1 1;", 1, 5);
        CHECK.fault("bite", 1, 4);
        CHECK.fault("law bite 1;", 1, 4);
        CHECK.fault("law", 1, 3);
        CHECK.fault("law dare", 1, 8);
        CHECK.fault("law dare 1", 1, 10);
        CHECK.fault("fruit p 1;", 1, 9);
    }

    private static void wrongExpressions() {
        CHECK.fault("law dare 1 < = 2;", 1, 13);
        CHECK.fault("law dare 1 => 2;", 1, 12);
        CHECK.fault("law dare 1 >< 2;", 1, 12);
        CHECK.fault("law dare 1 == 2;", 1, 12);
        CHECK.fine("law dare 1 <= 2;law praise 1 >= 2;law shock 1 <> 2;", 3);
        CHECK.fine("law dare 1<2;law praise 1>2;law shock 1=2;", 3);
        CHECK.fault("law dare 1 < 2 < 3;", 1, 15);
        CHECK.fault("law dare 1 = 2 + 3 = 3;", 1, 19);
        CHECK.fine("law dare (1 < 2) < 3;", 1);
        CHECK.fine("law dare 1 < 2 and 2 < 3 or 3 < 4;", 1);
        CHECK.fault("law dare 1 = not 1;", 1, 13);
        CHECK.fault("law dare 1 + not 1;", 1, 13);
        CHECK.fault("law dare 1 * not 1;", 1, 13);
        CHECK.fine("law dare (not 1) + 1;law shock 1 and not not 1 or not (not 1);", 2);
        CHECK.fault("law dare 1 not 1;", 1, 11);
        CHECK.fault("law dare ();", 1, 10);
        CHECK.fault("law dare (1;", 1, 11);
        CHECK.fault("law dare (1", 1, 11);
        CHECK.fault("law dare 1);", 1, 10);
        CHECK.fault("law dare 1 2;", 1, 11);
        CHECK.fault("law dare 1 (2);", 1, 11);
        CHECK.fault("law dare -1;", 1, 9);
        CHECK.fault("law dare + 1;", 1, 9);
        CHECK.fault("law dare 1 +;", 1, 12);
        CHECK.fault("law dare 1 and or 1;", 1, 15);
        CHECK.fault("law dare x;", 1, 9);
        CHECK.fault("law dare cold;", 1, 9);
        CHECK.fault("law dare manners;", 1, 9);
        CHECK.fine("law dare manner+hunger-wit*sweet/marks<there-(step);", 1);
    }

    private static void tooMuch() {
        CHECK.fault("guest a 100 1 1;", 2, 8);
        CHECK.fault("guest a 99 99 1;", 2, 11);
        CHECK.fault("guest a 99 98 10;", 2, 14);
        CHECK.fine("guest a 99 98 9;guest b 0 0 0;", 2);
        CHECK.fault("fruit a 10 0;", 2, 8);
        CHECK.fault("fruit a 9 2;", 2, 10);
        CHECK.fine("fruit a 9 1;fruit b 0 0;", 2);
        CHECK.fault("guest a 1 1 1;bite a 100;", 2, 21);
        CHECK.fine("guest a 1 1 1;bite a 99;bite a 0;", 3);
        CHECK.fault("near 0;", 2, 5);
        CHECK.fault("near 6;", 2, 5);
        CHECK.fine("near 5;cold 100;seed 99999;", 3);
        CHECK.fault("cold 101;", 2, 5);
        CHECK.fault("seed 100000;", 2, 5);
        CHECK.fault("seed 99999999999999999999999999;", 2, 5);
        CHECK.fault("seed 4294967296;", 2, 5);
        CHECK.fault("law dare 10000;", 2, 9);
        CHECK.fault("law dare 1 + 18446744073709551617;", 2, 13);
        CHECK.fine("law dare 9999;", 1);
        String guests = "guest a 1 1 1;guest b 1 1 1;guest c 1 1 1;guest d 1 1 1;guest e 1 1 1;guest f 1 1 1;";
        CHECK.fine(guests, 6);
        CHECK.fault(guests + "guest", 2, 84);
        CHECK.fault(guests + "guest a 1 1 1;", 2, 84);
        String fruits = "fruit a 1 1;fruit b 1 1;fruit c 1 1;fruit d 1 1;fruit e 1 1;fruit f 1 1;fruit g 1 1;fruit h 1 1;";
        CHECK.fine(fruits, 8);
        CHECK.fault(fruits + "fruit !", 2, 96);
        CHECK.fine("guest a 1 1 1;" + times("bite a 1;", 8), 9);
        CHECK.fault("guest a 1 1 1;" + times("bite a 1;", 8) + "bite b 1;", 2, 86);
        CHECK.fine("law dare " + times("(", 8) + "1" + times(")", 8) + "+" + times("(", 8) + "1" + times(")", 8) + ";", 1);
        CHECK.fault("law dare " + times("(", 9), 2, 17);
        CHECK.fault("law dare (1)+" + times("(", 9), 2, 21);
        CHECK.fault("law dare " + times("(", 8) + "1(", 1, 18);
    }

    private static void knots() {
        String sixtyFour = "law dare " + times("1+", 20) + "1;law shock " + times("not ", 22) + "step;";
        CHECK.fine(sixtyFour, 2);
        WaxBowl x = CHECK.told(sixtyFour);
        CHECK.due("knots", x.count(3), 64);
        CHECK.fault(sixtyFour + "law praise 1;", 2, sixtyFour.length() + 11);
        CHECK.fault(sixtyFour + "law praise (wit", 2, sixtyFour.length() + 12);
        CHECK.fault(sixtyFour + "law praise not", 2, sixtyFour.length() + 11);
        CHECK.fault("law dare " + times("not ", 63) + "1 + 1;", 2, 9 + 252 + 2);
        CHECK.fault("law dare " + times("not ", 63) + "1 and 1;", 2, 9 + 252 + 2);
        CHECK.fault("law dare " + times("not ", 63) + "1 not;", 1, 9 + 252 + 2);
        CHECK.fault("law dare 1 = " + times("(", 8) + times("not ", 60) + "1 + 1;", 2, 13 + 8 + 240 + 4);
        CHECK.fault("law dare " + times("1+", 31) + "1 = 1 = 1;", 2, 9 + 62 + 4);
        CHECK.fault("law dare " + times("1+", 31) + "1 = = 1;", 1, 9 + 62 + 4);
        CHECK.due("new text, fewer knots", Check.tell(x, "law dare 1 <= (2);"), 1);
        CHECK.due("knots of it", x.count(3), 3);
    }

    private static void toldAlreadyOrNot() {
        CHECK.fault("guest a 1 1 1;guest a 100 1 1;", 3, 20);
        CHECK.fault("fruit a 1 1;fruit a 1 1;", 3, 18);
        CHECK.fine("fruit a 1 1;guest a 1 1 1;fruit aa 1 1;guest aa 1 1 1;", 4);
        CHECK.fault("near 1;near 9;", 3, 7);
        CHECK.fault("cold 1;cold", 3, 7);
        CHECK.fault("seed 1;near 1;seed 1;", 3, 14);
        CHECK.fault("law dare 1;law dare x", 3, 15);
        CHECK.fault("law shock 1;law dare 1;law shock 1;", 3, 27);
        CHECK.fine("law shock 1;law dare 1;law praise 1;", 3);
        CHECK.fault("bite a 1;guest a 1 1 1;", 4, 5);
        CHECK.fault("guest a 1 1 1;bite b 100;", 4, 19);
        CHECK.fault("fruit a 1 1;bite a 1;", 4, 17);
        CHECK.fault("guest a 1 1 1;bite law 1;", 1, 19);
    }

    private static void names() {
        WaxBowl x = CHECK.told("guest anna 1 1 1;guest zyxwvu 1 1 1;fruit pear 1 1;fruit anna 2 1;guest an 1 1 1;");
        CHECK.due("anna", x.named(0, Check.letters("anna")), 0);
        CHECK.due("zyxwvu", x.named(0, Check.letters("zyxwvu")), 1);
        CHECK.due("an", x.named(0, Check.letters("an")), 2);
        CHECK.due("a is highest of six", x.named(0, 1 << 25 | 14 << 20), 2);
        CHECK.due("fruit anna", x.named(1, Check.letters("anna")), 1);
        CHECK.due("fruit pear", x.named(1, Check.letters("pear")), 0);
        CHECK.due("guest pear", x.named(0, Check.letters("pear")), WaxBowl.NONE);
        CHECK.due("fruit an", x.named(1, Check.letters("an")), WaxBowl.NONE);
        CHECK.due("nobody", x.named(0, 0), WaxBowl.NONE);
        CHECK.due("below 0", x.named(0, -1), WaxBowl.NONE);
        CHECK.due("letters at the lower end", x.named(0, 1 << 5 | 14), WaxBowl.NONE);
        CHECK.due("no such what", x.named(2, Check.letters("anna")), WaxBowl.NONE);
        CHECK.due("no such what", x.named(-1, Check.letters("anna")), WaxBowl.NONE);
        Check.tell(x, "guest b 1 1 1;");
        CHECK.due("names of the latest text alone", x.named(0, Check.letters("zyxwvu")), WaxBowl.NONE);
    }

    public static void main(String[] args) {
        newObject();
        feeding();
        textKeepsOrBegins();
        textBeginsAnew();
        textsBehindOneAnother();
        wrongTokens();
        wrongExpressions();
        tooMuch();
        knots();
        toldAlreadyOrNot();
        names();
        CHECK.end();
    }
}
