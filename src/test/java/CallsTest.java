/** Promises 15 to 19: what is done by call, and what a day does. */
final class CallsTest {
    private static final Due DUE = new Due("CallsTest");

    public static void main(String[] args) {
        sending();
        takingBack();
        swapping();
        lending();
        going();
        wantsComeFirst();
        theBoat();
        whatOnePays();
        room();
        storms();
        numbers();
        whatOneGains();
        DUE.end();
    }

    private static void sending() {
        PartsFerry x = DUE.ferry("man a 90;man b 90;sort s 1 1;sort t 1 1;send a s 3;");
        DUE.is("send", x.send(1, 1, 0), 1);
        DUE.is("its person", x.sending(1, 0), 1);
        DUE.is("its sort", x.sending(1, 1), 1);
        DUE.is("its day", x.sending(1, 2), 0);
        DUE.is("to go", x.sending(1, 3), 0);
        DUE.is("far on", x.send(0, 0, 9999), 2);
        DUE.is("too far on", x.send(0, 0, 10000), -1);
        DUE.is("day -1", x.send(0, 0, -1), -1);
        DUE.is("nobody", x.send(2, 0, 0), -1);
        DUE.is("nobody", x.send(-1, 0, 0), -1);
        DUE.is("no sort", x.send(0, 2, 0), -1);
        DUE.is("no sort", x.send(0, -1, 0), -1);
        DUE.is("three", x.count(3), 3);
        x.go(2);
        DUE.is("yesterday", x.send(0, 0, 1), -1);
        DUE.is("today", x.send(0, 0, 2), 3);
        for (int i = 4; i < 12; i++) {
            DUE.is("send " + i, x.send(0, 0, 50), i);
        }
        DUE.is("there are 12", x.send(0, 0, 50), -1);
        x.take(11);
        DUE.is("one taken back is one still", x.send(0, 0, 50), -1);
        DUE.is("12", x.count(3), 12);
    }

    private static void takingBack() {
        PartsFerry x = DUE.ferry("man a 90;sort s 1 1;sort t 1 1;send a s 0;send a t 0;send a s 1;");
        DUE.is("take", x.take(1), true);
        DUE.is("its state", x.sending(1, 3), 2);
        DUE.is("twice", x.take(1), false);
        DUE.is("none", x.take(3), false);
        DUE.is("none", x.take(-1), false);
        x.go(1);
        DUE.is("it doesn't go", x.port(0, 1), 0);
        DUE.is("the other one goes", x.port(0, 0), 1);
        DUE.is("gone", x.take(0), false);
        DUE.is("gone so far", x.count(9), 1);
        DUE.is("one to go", x.take(2), true);
        x.go(1);
        DUE.is("stays there", x.port(0, 0), 1);
        DUE.is("all are counted", x.count(3), 3);
    }

    private static void swapping() {
        PartsFerry x = DUE.ferry("man a 90;man b 90;man c 9;sort s 1 1;sort t 1 1;send a s 0;");
        DUE.is("swap", x.swap(0, 1, 0), true);
        DUE.is("swap on", x.swap(2, 0, 0), true);
        DUE.is("a holds c's", x.holds(0, 0), 2);
        DUE.is("b holds a's", x.holds(1, 0), 0);
        DUE.is("c holds b's", x.holds(2, 0), 1);
        DUE.is("t stays", x.man(0, 2), 2);
        DUE.is("alike", x.swap(1, 1, 0), false);
        DUE.is("nobody", x.swap(3, 1, 0), false);
        DUE.is("nobody", x.swap(1, 3, 0), false);
        DUE.is("nobody", x.swap(-1, 1, 0), false);
        DUE.is("no sort", x.swap(0, 1, 2), false);
        DUE.is("no sort", x.swap(0, 1, -1), false);
        x.go(1);
        DUE.is("at two ports", x.swap(0, 1, 0), false);
        DUE.is("the others", x.swap(1, 2, 0), true);
        DUE.is("c holds the one of a", x.holds(2, 0), 0);
        x.send(1, 0, 2);
        x.go(2);
        DUE.is("both at port 1", x.port(1, 0), 1);
        DUE.is("so they swap there", x.swap(0, 1, 0), true);
        DUE.is("b holds the one of c", x.holds(1, 0), 2);
    }

    private static void lending() {
        PartsFerry x = DUE.ferry("man a 0;man b 7;");
        DUE.is("lend", x.lend(0, 1), 1);
        DUE.is("lend 99", x.lend(0, 99), 100);
        DUE.is("pence", x.man(0, 0), 100);
        DUE.is("the other one's", x.man(1, 0), 7);
        DUE.is("0", x.lend(0, 0), -1);
        DUE.is("100", x.lend(0, 100), -1);
        DUE.is("-5", x.lend(0, -5), -1);
        DUE.is("nobody", x.lend(2, 5), -1);
        DUE.is("nobody", x.lend(-1, 5), -1);
        DUE.is("pence of all", x.count(10), 107);
        // 99999 pence can't be had within the 512 calls for which an object is good
    }

    private static void going() {
        PartsFerry x = DUE.ferry("man a 5;");
        DUE.is("go 0", x.go(0), 0);
        DUE.is("go 1", x.go(1), 1);
        DUE.is("go 99", x.go(99), 100);
        DUE.is("go 100", x.go(100), -1);
        DUE.is("go -1", x.go(-1), -1);
        DUE.is("the day", x.count(6), 100);
        for (int i = 0; i < 98; i++) {
            x.go(99);
        }
        DUE.is("the day", x.count(6), 9802);
        DUE.is("behind 9900", x.go(99), -1);
        DUE.is("to 9900", x.go(98), 9900);
        DUE.is("no more", x.go(1), -1);
        DUE.is("0 more", x.go(0), 9900);
    }

    private static void wantsComeFirst() {
        PartsFerry x = DUE.ferry("man a 0;sort s 1 9;deed d 1;send a s 0;want a d 0 0 9;want a d 1 0 9;");
        x.go(1);
        DUE.is("met ahead of the boat", x.want(0, 5), 1);
        DUE.is("missed ahead of the boat", x.want(1, 5), 2);
        DUE.is("what was gained is paid", x.man(0, 0), 0);
        DUE.is("and it went", x.port(0, 0), 1);
        DUE.is("met", x.count(7), 1);
        DUE.is("missed", x.count(8), 1);
    }

    private static void theBoat() {
        PartsFerry x = DUE.ferry("man a 99;sort s 1 1;send a s 0;send a s 0;send a s 0;send a s 1;");
        x.go(1);
        DUE.is("one of them", x.count(9), 1);
        DUE.is("over", x.port(0, 0), 1);
        x.go(1);
        DUE.is("back by the second one", x.port(0, 0), 0);
        DUE.is("which has gone", x.sending(1, 3), 1);
        DUE.is("not the third one", x.sending(2, 3), 0);
        x.go(1);
        DUE.is("over again", x.port(0, 0), 1);
        x.go(1);
        DUE.is("and back", x.port(0, 0), 0);
        DUE.is("all gone", x.count(9), 4);
        x = DUE.ferry("man a 99;sort s 1 1;send a s 1;");
        x.go(2);
        DUE.is("no boat at port 0 on odd days", x.port(0, 0), 0);
        x.go(1);
        DUE.is("but on even ones", x.port(0, 0), 1);
    }

    private static void whatOnePays() {
        PartsFerry x = DUE.ferry("man a 9;man b 4;sort s 1 5;sort t 1 4;send a s 0;send b s 0;send a t 0;send b t 0;");
        x.go(1);
        DUE.is("a pays both", x.man(0, 0), 0);
        DUE.is("b pays one", x.man(1, 0), 0);
        DUE.is("s of b stays", x.port(1, 0), 0);
        DUE.is("t of b goes", x.port(1, 1), 1);
        x.lend(1, 5);
        x.go(2);
        DUE.is("later, with pence", x.port(1, 0), 1);
    }

    private static void room() {
        PartsFerry x = DUE.ferry("man a 99;man b 99;sort s 4 1;sort t 3 1;sort u 2 1;room 7;"
                + "send a s 0;send b s 0;send a u 0;send b t 0;send b u 0;");
        x.go(1);
        DUE.is("4 and 2", x.man(0, 1), 1 | 4);
        DUE.is("none of b", x.man(1, 1), 0);
        x.go(2);
        DUE.is("4 and 3", x.man(1, 1), 3);
        x = DUE.ferry("man a 99;sort s 9 1;send a s 0;room 8;");
        x.go(9);
        DUE.is("never", x.count(9), 0);
    }

    private static void storms() {
        String four = "man a 9;man b 9;man c 9;man d 9;sort s 1 0;sort t 1 0;send b s 0;send c s 0;send d s 0;send a t 0;";
        PartsFerry x = DUE.ferry(four + "storm 100;");
        x.go(1);
        DUE.is("b and c are the first two", x.holds(1, 0), 2);
        DUE.is("b and c are the first two", x.holds(2, 0), 1);
        DUE.is("d isn't", x.holds(3, 0), 3);
        DUE.is("one alone isn't mixed", x.holds(0, 1), 0);
        DUE.is("storms", x.count(12), 1);
        x.go(5);
        DUE.is("storms without parts", x.count(12), 6);
        DUE.is("mix no more", x.count(11), 2);
        x = DUE.ferry(four);
        x.go(3);
        DUE.is("no storms", x.count(12), 0);
        DUE.is("nothing mixed", x.count(11), 0);
        x = DUE.ferry(four + "storm 100;law mix away>3;");
        x.go(1);
        DUE.is("the law says no", x.count(11), 0);
        DUE.is("but it storms", x.count(12), 1);
    }

    /** The numbers anew, by long division. */
    private static void numbers() {
        for (int storm : new int[] {1, 30, 50, 77, 99}) {
            PartsFerry x = DUE.ferry("storm " + storm + ";seed 4711;");
            long last = 4711;
            int storms = 0;
            for (int day = 1; day <= 60; day++) {
                last = (last * 1103515245L + 12345L) % 2147483648L;
                storms += last / 65536 % 100 < storm ? 1 : 0;
                x.go(1);
                DUE.is("storm " + storm + " by day " + day, x.count(12), storms);
            }
        }
        PartsFerry x = DUE.ferry("storm 50;seed 1;");
        x.keep();
        x.go(40);
        int storms = x.count(12);
        x.back();
        x.ahead(40, 0, 0);
        x.chance(9, 9, 0);
        x.go(40);
        DUE.is("the same numbers again", x.count(12), storms);
    }

    private static void whatOneGains() {
        PartsFerry x = DUE.ferry("man a 9;sort s 1 1;deed d 0;send a s 0;want a d 0 0 5;want a d 0 0 6;want a d 1 1 7;"
                + "law gain pence+worth+away*100;");
        x.go(1);
        DUE.is("14, 29, less 1", x.man(0, 0), 9 + 14 + 29 - 1);
        x.go(1);
        DUE.is("with one away", x.man(0, 0), 51 + 51 + 7 + 100);
    }
}
