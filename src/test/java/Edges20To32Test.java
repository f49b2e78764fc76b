/** The boundary cases that promises 20 to 32, and part 3 of the terms for them, name, sentence by sentence. */
final class Edges20To32Test {
    private static final Due DUE = new Due("Edges20To32Test");
    private static final int MIN = Integer.MIN_VALUE;
    private static final int MAX = Integer.MAX_VALUE;
    private static final int[] WRONG = {-1, 5, 6, MIN, MAX};
    private static final int[] NO_PORTS = {-1, 2, 3, MIN, MAX};
    private static final String FIVE_MEN = "man a 99;man b 99;man c 99;man d 99;man e 99;";
    private static final String FIVE_SORTS = "sort s 1 1;sort t 1 1;sort u 1 1;sort v 1 1;sort w 1 1;";

    public static void main(String[] args) {
        aheadMore();
        aheadSpans();
        aheadNoSuchOnes();
        aheadMixed();
        firstInDays();
        firstWithinNinetyNine();
        firstNoSuchOnes();
        loadOfThoseDue();
        loadAtTheBoatsPort();
        loadByRates();
        loadByRoom();
        loadOfEachPartOnce();
        loadOfLeastBits();
        loadOfAnotherWhat();
        orderOfFour();
        orderTwoDaysLater();
        orderBehindTwentyDays();
        orderOfSeveral();
        orderOfFewer();
        orderOfAnotherWhat();
        swaps();
        togetherAtAPort();
        togetherNoSuchOnes();
        needsAndCheap();
        needsNoSuchOnes();
        meet();
        meetByRate();
        restsNoSuchOnes();
        calm();
        calmNoSuchOnes();
        whose();
        lost();
        halves();
        dueToday();
        thoseOfAnotherWhat();
        DUE.end();
    }

    private static void aheadMore() {
        DUE.says("Terms 3", "how many WANTS more are MET, MISSED; SENDINGS GONE more; PENCE of a PERSON then");
        PartsFerry x = DUE.ferry("man a 10;man b 20;sort s 1 4;deed d 1;send a s 0;send b s 2;"
                + "want a d 0 0 1;want a d 0 1 1;want a d 1 2 1;want b d 0 2 1;want b d 0 3 1;");
        int[][][] due = {{{0, 0, 0, 10}, {1, 0, 1, 7}, {1, 1, 1, 7}, {3, 1, 2, 8}, {3, 2, 2, 8}},
            {{0, 0, 0, 7}, {0, 1, 0, 7}, {2, 1, 1, 8}, {2, 2, 1, 8}, {2, 2, 1, 8}},
            {{0, 0, 0, 7}, {2, 0, 1, 8}, {2, 1, 1, 8}, {2, 1, 1, 8}, {2, 1, 1, 8}}};
        for (int day = 0; day < 3; day++) {
            for (int n = 0; n < 5; n++) {
                for (int what = 0; what < 4; what++) {
                    DUE.is("ahead(" + n + ", " + what + ", 0) on day " + day, x.ahead(n, what, 0), due[day][n][what]);
                }
            }
            DUE.is("pence of b", x.ahead(4, 3, 1), 17);
            x.go(1);
        }
        DUE.is("nothing went by it", x.count(6), 3);
    }

    private static void aheadSpans() {
        DUE.says("Promise 20", "AHEAD (n 0 .. 99)");
        PartsFerry x = DUE.ferry("man a 10;deed d 0;want a d 0 0 1;want a d 0 98 1;want a d 0 99 1;");
        int[][] due = {{0, 0}, {1, 1}, {98, 1}, {99, 2}, {100, -1}, {-1, -1}, {MIN, -1}, {MAX, -1}};
        for (int[] row : due) {
            DUE.is("ahead(" + row[0] + ", 0, 0)", x.ahead(row[0], 0, 0), row[1]);
        }
        x.go(1);
        DUE.is("99 days from day 1 on", x.ahead(99, 0, 0), 2);
    }

    private static void aheadNoSuchOnes() {
        DUE.says("Promise 20", "3 PENCE of a PERSON (else that isn't looked at), 4 MIXED. NONE: no such ones");
        PartsFerry x = DUE.ferry("man a 10;man b 20;");
        for (int man : new int[] {-1, 2, 5, MIN, MAX}) {
            DUE.is("ahead(1, 3, " + man + ")", x.ahead(1, 3, man), -1);
            for (int what : new int[] {0, 1, 2, 4}) {
                DUE.is("ahead(1, " + what + ", " + man + ")", x.ahead(1, what, man), 0);
            }
        }
        DUE.is("ahead(1, 3, 1)", x.ahead(1, 3, 1), 20);
        for (int what : WRONG) {
            DUE.is("ahead(1, " + what + ", 0)", x.ahead(1, what, 0), -1);
        }
        DUE.is("ahead(100, 3, 0)", x.ahead(100, 3, 0), -1);
    }

    private static void aheadMixed() {
        DUE.says("Terms 3", "MIXED then (PARTS held by another one than whose they are)");
        PartsFerry x = DUE.ferry("man a 9;man b 9;man c 9;sort s 1 0;sort t 1 0;send a s 2;send b s 2;storm 100;");
        DUE.is("none now", x.ahead(0, 4, 0), 0);
        DUE.is("none yet", x.ahead(2, 4, 0), 0);
        DUE.is("two", x.ahead(3, 4, 0), 2);
        x.swap(0, 2, 1);
        DUE.is("two now", x.ahead(0, 4, 0), 2);
        DUE.is("four", x.ahead(3, 4, 0), 4);
        x.swap(0, 1, 0);
        DUE.is("the storm puts s right", x.ahead(3, 4, 0), 2);
        DUE.is("as many as now", x.ahead(0, 4, 0), x.count(11));
        PartsFerry all = DUE.ferry(FIVE_MEN + FIVE_SORTS);
        for (int sort = 0; sort < 5; sort++) {
            for (int man = 1; man < 5; man++) {
                all.swap(0, man, sort);
            }
        }
        DUE.is("all 25", all.ahead(0, 4, 0), 25);
    }

    private static void firstInDays() {
        DUE.says("Terms 3", "in how many DAYS as it goes, 99 at most, that one CAN (0: now)");
        PartsFerry x = DUE.ferry("man a 9;sort s 1 0;deed d 1;deed e 0;send a s 0;send a s 3;");
        int[] atOne = {1, 0, 0, 0, -2};
        int[] atZero = {0, 3, 2, 1, 0};
        for (int day = 0; day < 5; day++) {
            DUE.is("first(0, 0, 1) on day " + day, x.first(0, 0, 1), atOne[day]);
            DUE.is("first(0, 0, 0) on day " + day, x.first(0, 0, 0), atZero[day]);
            DUE.is("first(0, 1, 1) on day " + day, x.first(0, 1, 1), 0);
            DUE.is("the day", x.count(6), day);
            x.go(1);
        }
    }

    private static void firstWithinNinetyNine() {
        DUE.says("Promise 21", "-2: not by then");
        PartsFerry x = DUE.ferry("man a 9;sort s 1 0;deed d 1;send a s 98;");
        DUE.is("on the 99th", x.first(0, 0, 1), 99);
        PartsFerry y = DUE.ferry("man a 9;sort s 1 0;deed d 1;");
        y.send(0, 0, 100);
        DUE.is("on the 101st", y.first(0, 0, 1), -2);
        y.go(1);
        DUE.is("on the 100th", y.first(0, 0, 1), -2);
        y.go(1);
        DUE.is("on the 99th", y.first(0, 0, 1), 99);
        y.go(1);
        DUE.is("on the 98th", y.first(0, 0, 1), 98);
        DUE.is("never", DUE.ferry("man a 9;sort s 1 0;deed d 1;").first(0, 0, 1), -2);
    }

    private static void firstNoSuchOnes() {
        DUE.says("Promise 21", "NONE: no such ones");
        PartsFerry x = DUE.ferry("man a 9;sort s 1 0;sort t 1 0;deed d 1;");
        for (int wrong : new int[] {-1, 1, 5, MIN, MAX}) {
            DUE.is("first(" + wrong + ", 0, 0)", x.first(wrong, 0, 0), -1);
            DUE.is("first(0, " + wrong + ", 0)", x.first(0, wrong, 0), -1);
        }
        for (int port : NO_PORTS) {
            DUE.is("first(0, 0, " + port + ")", x.first(0, 0, port), -1);
        }
    }

    private static void loadIs(String what, PartsFerry x, int bits, int rates) {
        DUE.is("load(0) " + what, x.load(0), bits);
        DUE.is("load(1) " + what, x.load(1), rates);
    }

    private static void loadOfThoseDue() {
        DUE.says("Terms 3", "LOAD: of the SENDINGS that are DUE today, haven't GONE");
        PartsFerry x = DUE.ferry("man a 99;man b 99;man c 99;sort s 1 5;send a s 0;send b s 1;send c s 2;");
        loadIs("on day 0", x, 1, 5);
        x.go(1);
        loadIs("on day 1", x, 0, 0);
        x.go(1);
        loadIs("on day 2", x, 6, 10);
        x.take(1);
        loadIs("without what was taken back", x, 4, 5);
        x.undo();
        x.go(1);
        loadIs("on day 3", x, 0, 0);
        PartsFerry y = DUE.ferry("man a 99;sort s 1 5;send a s 0;");
        y.go(2);
        loadIs("of what has gone", y, 0, 0);
    }

    private static void loadAtTheBoatsPort() {
        DUE.says("Terms 3", "whose PARTS lie at the BOAT's port");
        PartsFerry x = DUE.ferry("man a 0;man b 99;sort s 1 5;send a s 0;send b s 0;");
        loadIs("nobody's pence are looked at", x, 3, 10);
        x.go(1);
        loadIs("a's is at port 0, the boat at port 1", x, 0, 0);
        x.send(1, 0, 1);
        loadIs("b's is at port 1", x, 4, 5);
        x.go(1);
        loadIs("on day 2 a's again", x, 1, 5);
        PartsFerry y = DUE.ferry("man a 9;man b 9;sort s 1 5;send a s 0;send b s 2;");
        y.go(2);
        y.send(0, 0, 2);
        loadIs("a's is at port 1, the boat at port 0", y, 2, 5);
        y.go(1);
        loadIs("on day 3 a's", y, 4, 5);
    }

    private static void loadByRates() {
        DUE.says("Terms 3", "those (bits) by which RATES in sum are most");
        String sorts = "man a 0;man b 0;sort s 5 50;sort t 3 30;sort u 3 21;sort v 2 19;sort w 1 0;room 6;";
        loadIs("51 of t and u", DUE.ferry(sorts + "send a s 0;send a t 0;send a u 0;send a w 0;"), 6, 51);
        loadIs("50 of s ahead of 49", DUE.ferry(sorts + "send a s 0;send a t 0;send a v 0;send a w 0;"), 1, 50);
        loadIs("what has no rate stays", DUE.ferry(sorts + "send a w 0;send b w 0;"), 0, 0);
        loadIs("the rate of 99", DUE.ferry("man a 0;sort s 9 99;send a s 0;"), 1, 99);
        StringBuilder all = new StringBuilder("man a 0;man b 0;man c 0;sort s 1 99;sort t 1 99;sort u 1 99;sort v 1 99;");
        for (String man : new String[] {"a", "b", "c"}) {
            for (String sort : new String[] {"s", "t", "u", "v"}) {
                all.append("send ").append(man).append(' ').append(sort).append(" 0;");
            }
        }
        loadIs("of all twelve", DUE.ferry(all + "room 12;"), 4095, 1188);
        loadIs("of eleven of twelve", DUE.ferry(all + "room 11;"), 2047, 1089);
    }

    private static void loadByRoom() {
        DUE.says("Terms 3", "SIZES in sum no more than the room");
        String two = "man a 0;sort s 4 7;sort t 5 8;send a s 0;send a t 0;room ";
        loadIs("of room 3", DUE.ferry(two + "3;"), 0, 0);
        loadIs("of room 4", DUE.ferry(two + "4;"), 1, 7);
        loadIs("of room 5", DUE.ferry(two + "5;"), 2, 8);
        loadIs("of room 8", DUE.ferry(two + "8;"), 2, 8);
        loadIs("of room 9", DUE.ferry(two + "9;"), 3, 15);
        loadIs("of no room told: 9", DUE.ferry(two.replace("room ", "")), 3, 15);
        loadIs("of room 30", DUE.ferry(two + "30;"), 3, 15);
        String much = "man a 0;man b 0;man c 0;man d 0;sort s 9 7;sort t 3 6;sort u 1 5;send a s 0;send b s 0;send c s 0;send a t 0;send a u 0;room ";
        loadIs("9, 9, 9 and 3 of 30", DUE.ferry(much + "30;"), 15, 27);
        loadIs("9, 9, 9 and 1 of 29", DUE.ferry(much + "29;"), 23, 26);
        // asked again, it is as it is then
        PartsFerry x = DUE.ferry(much + "30;");
        loadIs("at first", x, 15, 27);
        for (int sending = 0; sending < 4; sending++) {
            x.take(sending);
        }
        loadIs("of what is left", x, 16, 5);
        x.take(4);
        loadIs("of nothing", x, 0, 0);
    }

    private static void loadOfEachPartOnce() {
        DUE.says("Terms 3", "(each PART once)");
        PartsFerry x = DUE.ferry("man a 0;man b 0;sort s 1 5;sort t 2 7;send a s 0;send a s 0;send a t 0;room 2;");
        loadIs("s twice would have 10", x, 4, 7);
        x.take(2);
        loadIs("s once", x, 1, 5);
        x.take(0);
        loadIs("s once by the other one", x, 2, 5);
        x.send(1, 0, 0);
        loadIs("s of two", x, 10, 10);
        // the earlier one isn't due: then the later one stands for the part
        PartsFerry y = DUE.ferry("man a 0;sort s 1 5;send a s 1;send a s 0;");
        loadIs("by the one that is due", y, 2, 5);
        // what is alike in one of person and sort alone is another part
        String two = "man a 0;man b 0;sort s 1 5;sort t 1 7;";
        loadIs("b's and a's s", DUE.ferry(two + "send b s 0;send a s 0;"), 3, 10);
        loadIs("a's and b's s", DUE.ferry(two + "send a s 0;send b s 0;"), 3, 10);
        loadIs("t and s of a", DUE.ferry(two + "send a t 0;send a s 0;"), 3, 12);
        loadIs("s and t of a", DUE.ferry(two + "send a s 0;send a t 0;"), 3, 12);
        loadIs("b's t and a's s", DUE.ferry(two + "send b t 0;send a s 0;"), 3, 12);
    }

    private static void loadOfLeastBits() {
        DUE.says("Terms 3", "of several the least bits");
        String sorts = "man a 0;man b 0;man c 0;man d 0;sort s 2 5;sort t 1 3;sort u 1 2;";
        loadIs("one of two", DUE.ferry(sorts + "send b s 0;send a s 0;room 2;"), 1, 5);
        loadIs("t and u first, then s", DUE.ferry(sorts + "send a t 0;send a u 0;send a s 0;room 2;"), 3, 5);
        loadIs("s first, then t and u", DUE.ferry(sorts + "send a s 0;send a t 0;send a u 0;room 2;"), 1, 5);
        loadIs("most rates go ahead of least bits", DUE.ferry(sorts + "send a t 0;send b s 0;send c s 0;send b t 0;room 2;"), 9, 6);
        loadIs("1 and 2 are 6, 0 and 3 are 9", DUE.ferry("man a 0;sort s 3 5;sort t 2 4;sort u 2 3;sort v 1 2;send a s 0;send a t 0;send a u 0;"
                + "send a v 0;room 4;"), 6, 7);
        loadIs("without what adds nothing", DUE.ferry("man a 0;sort s 1 0;sort t 1 4;send a s 0;send a t 0;"), 2, 4);
    }

    private static void loadOfAnotherWhat() {
        DUE.says("Promise 22", "NONE for another what");
        PartsFerry x = DUE.ferry("man a 0;sort s 1 5;send a s 0;");
        for (int what : new int[] {-1, 2, 3, MIN, MAX}) {
            DUE.is("load(" + what + ")", x.load(what), -1);
        }
        loadIs("itself", x, 1, 5);
    }

    private static void orderIs(String which, PartsFerry x, int... due) {
        for (int what = 0; what < 5; what++) {
            DUE.is("order(" + what + ") " + which, x.order(what), due[what]);
        }
    }

    private static void orderOfFour() {
        DUE.says("Terms 3", "ORDER of the first four SENDINGS that haven't GONE");
        String text = "man a 900;man b 99;sort s 1 1;sort t 1 2;sort u 1 3;sort v 1 4;sort w 1 5;law fare rate*(day+1);";
        // the dearest one first: 4, 9, 10, 7 are paid; w goes on its own day 0 for 5
        orderIs("of five", DUE.ferry(text + "send a s 0;send a t 0;send a u 0;send a v 0;send a w 0;"), 3, 2, 1, 0, -35);
        orderIs("of five, the fifth later", DUE.ferry(text + "send a s 0;send a t 0;send a u 0;send a v 0;send a w 3;"), 3, 2, 1, 0, -55);
        PartsFerry x = DUE.ferry(text + "send b w 0;send a s 9;send a t 9;send a u 9;send a v 9;");
        x.go(1);
        // from day 1 on all wait for the next even day: 2, 4, 6, 8
        orderIs("without what has gone", x, 4, 3, 2, 1, -(4 * 3 + 3 * 5 + 2 * 7 + 9));
        x.take(4);
        orderIs("without what was taken back", x, 3, 2, 1, -2, -(3 * 3 + 2 * 5 + 7));
        DUE.is("days of sendings stay", x.sending(1, 2), 9);
        DUE.is("nothing went", x.count(9), 1);
    }

    private static void orderTwoDaysLater() {
        DUE.says("Terms 3", "DUE from this DAY on, the next one two DAYS later and so on");
        String text = "man a 900;sort s 1 0;sort t 1 0;sort u 1 0;sort v 1 0;send a s 50;send a t 60;send a u 70;send a v 80;law fare day+1;";
        orderIs("1, 3, 5 and 7 are paid", DUE.ferry(text), 0, 1, 2, 3, -16);
        // a want for each: the one at port 1 on day 1 must be due on day 0, and so on
        String[] sorts = {"1", "2", "4", "8"};
        int[][] rows = {{3, 1, 0, 2}, {0, 1, 2, 3}, {2, 3, 1, 0}, {3, 2, 1, 0}};
        for (int[] row : rows) {
            StringBuilder wants = new StringBuilder(text.replace("day+1", "0"));
            for (int i = 0; i < 4; i++) {
                wants.append("deed d").append((char) ('a' + i)).append(' ').append(sorts[row[i]]).append(';');
                wants.append("want a d").append((char) ('a' + i)).append(" 1 ").append(2 * i + 1).append(" 10;");
            }
            orderIs("by wants", DUE.ferry(wants.toString()), row[0], row[1], row[2], row[3], 40);
        }
    }

    private static void orderBehindTwentyDays() {
        DUE.says("Terms 3", "in the row by which PENCE of all are most behind 20 DAYS as it goes");
        String text = "man a 5;man b 5;deed d 0;want a d 0 19 10;want b d 0 20 40;want b d 0 21 80;";
        PartsFerry x = DUE.ferry(text);
        DUE.is("order(4) on day 0", x.order(4), 10);
        x.go(1);
        DUE.is("order(4) on day 1", x.order(4), 50);
        x.go(1);
        DUE.is("order(4) on day 2", x.order(4), 130);
        x.go(18);
        DUE.is("order(4) on day 20", x.order(4), 120);
        // as it goes: with a storm of 50 the parts are swapped aboard, by numbers they may not be
        String storms = "man a 9;man b 9;sort s 1 0;deed d 0;send a s 0;send b s 0;want a d 0 19 10;storm 50;law gain worth;";
        DUE.is("order(4) with storms", DUE.ferry(storms).order(4), 10);
    }

    private static void orderOfSeveral() {
        DUE.says("Terms 3", "of several the first by SENDINGS");
        String text = "man a 99;sort s 1 1;sort t 1 1;sort u 1 1;sort v 1 1;";
        orderIs("all alike", DUE.ferry(text + "send a s 0;send a t 0;send a u 0;send a v 0;"), 0, 1, 2, 3, -4);
        orderIs("all alike, whatever their days", DUE.ferry(text + "send a v 9;send a u 7;send a t 5;send a s 3;"), 0, 1, 2, 3, -4);
        // t must go first; the others keep their row
        orderIs("but for one", DUE.ferry(text + "deed d 2;want a d 1 1 9;send a s 0;send a u 0;send a t 0;send a v 0;"), 2, 0, 1, 3, 5);
        // t must not go first, for it would be away on day 1
        orderIs("but for the first", DUE.ferry(text + "deed d 2;want a d 0 1 9;send a t 0;send a s 0;send a u 0;send a v 0;"), 1, 0, 2, 3, 5);
    }

    private static void orderOfFewer() {
        DUE.says("Promise 23", "what 0 .. 3: the SENDING that is DUE first, and so on (-2: not so many), 4: PENCE more of all (may be below 0)");
        String text = "man a 9;man b 99;sort s 1 1;sort t 1 2;sort u 1 3;sort v 1 4;law fare rate*(day+1);";
        orderIs("of none", DUE.ferry(text), -2, -2, -2, -2, 0);
        orderIs("of one", DUE.ferry(text + "send b s 0;"), 0, -2, -2, -2, -1);
        orderIs("of two", DUE.ferry(text + "send b s 0;send b t 0;"), 1, 0, -2, -2, -5);
        orderIs("of three", DUE.ferry(text + "send b s 0;send b t 0;send b u 0;"), 2, 1, 0, -2, -14);
        orderIs("of four", DUE.ferry(text + "send b s 0;send b t 0;send b u 0;send b v 0;"), 3, 2, 1, 0, -30);
        PartsFerry x = DUE.ferry(text + "send b s 0;");
        x.go(1);
        orderIs("of one that has gone", x, -2, -2, -2, -2, 0);
        // asked again, it is as it is then: with fewer pence, too
        PartsFerry y = DUE.ferry(text + "send b s 0;send b t 0;");
        y.lend(0, 99);
        orderIs("with pence lent", y, 1, 0, -2, -2, -5);
        y.undo();
        orderIs("without", y, 1, 0, -2, -2, -5);
        y.take(1);
        orderIs("without the other one", y, 0, -2, -2, -2, -1);
    }

    private static void orderOfAnotherWhat() {
        DUE.says("Promise 23", "Integer.MIN_VALUE for another what");
        PartsFerry x = DUE.ferry("man a 9;sort s 1 1;send a s 0;");
        for (int what : WRONG) {
            DUE.is("order(" + what + ")", x.order(what), MIN);
        }
    }

    private static void swaps() {
        DUE.says("Terms 3", "SWAPS: the fewest swaps of two PARTS of one SORT by which each one HOLDS the own ones");
        PartsFerry x = DUE.ferry(FIVE_MEN + FIVE_SORTS);
        DUE.is("none", x.swaps(), 0);
        for (int sort = 0; sort < 5; sort++) {
            for (int man = 1; man < 5; man++) {
                x.swap(0, man, sort);
                DUE.is("rings grow", x.swaps(), 4 * sort + man);
            }
        }
        DUE.is("of five rings of five", x.swaps(), 20);
        for (int man = 4; man >= 1; man--) {
            x.swap(0, man, 2);
        }
        DUE.is("one of them put right", x.swaps(), 16);
        PartsFerry y = DUE.ferry(FIVE_MEN + FIVE_SORTS);
        y.swap(0, 1, 0);
        y.swap(2, 3, 0);
        DUE.is("two rings of two", y.swaps(), 2);
        y.swap(1, 4, 0);
        DUE.is("a ring of three, one of two", y.swaps(), 3);
        DUE.says("Promise 24", "SWAPS");
        DUE.is("nobody", DUE.ferry(FIVE_SORTS).swaps(), 0);
        DUE.is("no sorts", DUE.ferry(FIVE_MEN).swaps(), 0);
        // where the parts lie isn't looked at
        PartsFerry z = DUE.ferry("man a 9;man b 9;sort s 1 0;send a s 0;");
        z.swap(0, 1, 0);
        z.go(1);
        DUE.is("at two ports", z.swaps(), 1);
    }

    private static void togetherAtAPort() {
        DUE.says("Terms 3", "TOGETHER: DEEDS (bits) that two CAN do at a PORT, if for each SORT one of both HOLDS a PART of it there");
        PartsFerry x = DUE.ferry("man a 99;man b 99;man c 99;sort s 1 1;sort t 1 1;deed none 0;deed s 1;deed t 2;deed both 3;"
                + "send a s 0;send b t 0;send b s 2;send a t 4;");
        int[][] atZero = {{15, 15}, {15, 15}, {15, 15}, {5, 15}, {5, 15}, {1, 15}};
        int[][] atOne = {{1, 1}, {15, 3}, {15, 3}, {15, 3}, {15, 3}, {15, 15}};
        for (int day = 0; day < 6; day++) {
            DUE.is("together(0, 1, 0) on day " + day, x.together(0, 1, 0), atZero[day][0]);
            DUE.is("together(1, 0, 0) on day " + day, x.together(1, 0, 0), atZero[day][0]);
            DUE.is("together(0, 2, 0) on day " + day, x.together(0, 2, 0), atZero[day][1]);
            DUE.is("together(0, 1, 1) on day " + day, x.together(0, 1, 1), atOne[day][0]);
            DUE.is("together(0, 2, 1) on day " + day, x.together(0, 2, 1), atOne[day][1]);
            x.go(1);
        }
        DUE.is("no deeds", DUE.ferry("man a 9;man b 9;sort s 1 1;").together(0, 1, 0), 0);
        DUE.is("five deeds", DUE.ferry(FIVE_MEN + "sort s 1 1;deed a 1;deed b 1;deed c 0;deed d 1;deed e 1;").together(3, 4, 0), 31);
    }

    private static void togetherNoSuchOnes() {
        DUE.says("Promise 25", "NONE: no such ones, alike");
        PartsFerry x = DUE.ferry("man a 99;man b 99;sort s 1 1;deed d 1;");
        for (int wrong : new int[] {-1, 2, 5, MIN, MAX}) {
            DUE.is("together(" + wrong + ", 0, 0)", x.together(wrong, 0, 0), -1);
            DUE.is("together(0, " + wrong + ", 0)", x.together(0, wrong, 0), -1);
            DUE.is("together(" + wrong + ", " + wrong + ", 0)", x.together(wrong, wrong, 0), -1);
        }
        for (int port : NO_PORTS) {
            DUE.is("together(0, 1, " + port + ")", x.together(0, 1, port), -1);
        }
        DUE.is("alike", x.together(0, 0, 0), -1);
        DUE.is("alike", x.together(1, 1, 1), -1);
        DUE.is("not alike", x.together(1, 0, 0), 1);
    }

    private static void needsAndCheap() {
        DUE.says("Terms 3", "NEEDS of a PERSON, a DEED and a PORT: SORTS (bits) that lie at the other one. CHEAP for the same: RATES of these in sum");
        PartsFerry x = DUE.ferry("man a 99;man b 99;sort s 1 1;sort t 1 10;sort u 1 0;sort v 1 20;sort w 1 99;deed none 0;deed all 31;deed some 21;"
                + "send a s 0;send a v 0;");
        x.go(1);
        int[][] due = {{0, 0, 0, 0, 0}, {0, 0, 1, 0, 0}, {0, 1, 0, 9, 21}, {0, 1, 1, 22, 109}, {0, 2, 0, 1, 1}, {0, 2, 1, 20, 99},
            {1, 1, 0, 0, 0}, {1, 1, 1, 31, 130}, {1, 2, 1, 21, 100}};
        for (int[] row : due) {
            String ask = "(" + row[0] + ", " + row[1] + ", " + row[2] + ")";
            DUE.is("needs" + ask, x.needs(row[0], row[1], row[2]), row[3]);
            DUE.is("cheap" + ask, x.cheap(row[0], row[1], row[2]), row[4]);
            DUE.is("can" + ask, x.can(row[0], row[1], row[2]), row[3] == 0 ? 1 : 0);
        }
        PartsFerry most = DUE.ferry("man a 9;sort s 1 99;sort t 1 99;sort u 1 99;sort v 1 99;sort w 1 99;deed d 31;");
        DUE.is("the most", most.cheap(0, 0, 1), 495);
    }

    private static void needsNoSuchOnes() {
        DUE.says("Promise 26", "NEEDS (bits); NONE: no such ones");
        PartsFerry x = DUE.ferry("man a 99;man b 99;sort s 1 1;deed d 1;");
        for (int wrong : new int[] {-1, 2, 5, MIN, MAX}) {
            DUE.is("needs(" + wrong + ", 0, 0)", x.needs(wrong, 0, 0), -1);
            DUE.is("needs(0, " + wrong + ", 0)", x.needs(0, wrong, 0), -1);
        }
        DUE.is("needs(0, 1, 0)", x.needs(0, 1, 0), -1);
        DUE.is("needs(1, 0, 0)", x.needs(1, 0, 0), 0);
        for (int port : NO_PORTS) {
            DUE.is("needs(0, 0, " + port + ")", x.needs(0, 0, port), -1);
        }
        DUE.says("Promise 27", "CHEAP; NONE: no such ones");
        for (int wrong : new int[] {-1, 2, 5, MIN, MAX}) {
            DUE.is("cheap(" + wrong + ", 0, 0)", x.cheap(wrong, 0, 0), -1);
            DUE.is("cheap(0, " + wrong + ", 0)", x.cheap(0, wrong, 0), -1);
        }
        DUE.is("cheap(0, 1, 0)", x.cheap(0, 1, 0), -1);
        DUE.is("cheap(1, 0, 1)", x.cheap(1, 0, 1), 1);
        for (int port : NO_PORTS) {
            DUE.is("cheap(0, 0, " + port + ")", x.cheap(0, 0, port), -1);
        }
    }

    private static void restsAre(String which, PartsFerry x, int... due) {
        DUE.is("rests(0, 1, 0) " + which, x.rests(0, 1, 0), due.length);
        for (int k = 0; k < due.length; k++) {
            DUE.is("rest(0, 1, 0, " + k + ") " + which, x.rest(0, 1, 0, k), due[k]);
        }
        DUE.is("rest(0, 1, 0, " + due.length + ") " + which, x.rest(0, 1, 0, due.length), -2);
        DUE.is("rest(0, 1, 0, MAX) " + which, x.rest(0, 1, 0, MAX), -2);
    }

    /** People of whom some parts lie at port 1. */
    private static PartsFerry meeting(int rate, int ofA, int ofB) {
        StringBuilder text = new StringBuilder("man a 99;man b 99;sort s 1 " + rate + ";sort t 1 0;sort u 1 0;sort v 1 0;sort w 1 0;");
        for (int i = 0; i < ofA; i++) {
            text.append("send a ").append((char) ('t' + i)).append(" 0;");
        }
        for (int i = 0; i < ofB; i++) {
            text.append("send b ").append((char) ('t' + i)).append(" 0;");
        }
        PartsFerry x = DUE.ferry(text.toString());
        x.go(1);
        return x;
    }

    /** Who goes alone with a rate of 3 has 2 more than with the other one: so two parts at port 1 are even with that. */
    private static void meet() {
        DUE.says("Terms 3", "who goes alone has RATE, both by one have RATE by 3, cut; the one who goes by this one has 1 more for each of its PARTS "
                + "at port 1. A REST: neither would have more otherwise. RESTS: by the first one's, then the second one's.");
        restsAre("with 0 and 0", meeting(3, 0, 0), 1, 10);
        restsAre("with 1 and 1", meeting(3, 1, 1), 1, 10);
        restsAre("with 2 and 1", meeting(3, 2, 1), 1, 10);
        restsAre("with 2 and 2", meeting(3, 2, 2), 0, 1, 10);
        restsAre("with 3 and 2", meeting(3, 3, 2), 0, 1);
        restsAre("with 2 and 3", meeting(3, 2, 3), 0, 10);
        restsAre("with 3 and 3", meeting(3, 3, 3), 0);
        restsAre("with 3 and 1", meeting(3, 3, 1), 1);
        restsAre("with 1 and 3", meeting(3, 1, 3), 10);
        restsAre("with 3 and 0", meeting(3, 3, 0), 1);
        restsAre("with 4 and 4", meeting(3, 4, 4), 0);
        PartsFerry x = meeting(3, 3, 1);
        DUE.is("the other way round", x.rest(1, 0, 0, 0), 10);
        DUE.is("one alone", x.rests(1, 0, 0), 1);
    }

    private static void meetByRate() {
        restsAre("of rate 0", meeting(0, 0, 0), 0, 1, 10, 11);
        restsAre("of rate 0 with 1 and 0", meeting(0, 1, 0), 0, 1);
        restsAre("of rate 0 with 0 and 1", meeting(0, 0, 1), 0, 10);
        restsAre("of rate 0 with 1 and 1", meeting(0, 1, 1), 0);
        // 2 by 3 is 0, cut: alone 2 more; 5 by 3 is 1: alone 4 more
        restsAre("of rate 1 with 1 and 1", meeting(1, 1, 1), 0, 1, 10);
        restsAre("of rate 2 with 1 and 1", meeting(2, 1, 1), 1, 10);
        restsAre("of rate 2 with 2 and 2", meeting(2, 2, 2), 0, 1, 10);
        restsAre("of rate 4 with 2 and 2", meeting(4, 2, 2), 1, 10);
        restsAre("of rate 4 with 3 and 3", meeting(4, 3, 3), 0, 1, 10);
        restsAre("of rate 5 with 3 and 3", meeting(5, 3, 3), 1, 10);
        restsAre("of rate 5 with 4 and 4", meeting(5, 4, 4), 0, 1, 10);
        restsAre("of rate 6 with 4 and 4", meeting(6, 4, 4), 0, 1, 10);
        restsAre("of rate 7 with 4 and 4", meeting(7, 4, 4), 1, 10);
        restsAre("of rate 99", meeting(99, 4, 4), 1, 10);
    }

    private static void restsNoSuchOnes() {
        DUE.says("Promise 28", "NONE: no such ones, PEOPLE alike");
        PartsFerry x = DUE.ferry("man a 9;man b 9;sort s 1 3;");
        int[][] wrong = {{-1, 0, 0}, {2, 0, 0}, {5, 0, 0}, {MIN, 0, 0}, {MAX, 0, 0}, {0, -1, 0}, {0, 2, 0}, {0, MAX, 0}, {0, 1, -1}, {0, 1, 1},
            {0, 1, 5}, {0, 1, MIN}, {0, 0, 0}, {1, 1, 0}, {2, 2, 0}, {-1, -1, 0}};
        for (int[] ask : wrong) {
            String these = "(" + ask[0] + ", " + ask[1] + ", " + ask[2];
            DUE.is("rests" + these + ")", x.rests(ask[0], ask[1], ask[2]), -1);
            DUE.is("rest" + these + ", 0)", x.rest(ask[0], ask[1], ask[2], 0), -1);
            DUE.is("rest" + these + ", 9)", x.rest(ask[0], ask[1], ask[2], 9), -1);
        }
        DUE.says("Promise 29", "-2: there are no so many; NONE likewise, k is below 0");
        DUE.is("k -1", x.rest(0, 1, 0, -1), -1);
        DUE.is("k MIN", x.rest(0, 1, 0, MIN), -1);
        DUE.is("k 0", x.rest(0, 1, 0, 0), 1);
        DUE.is("k 1", x.rest(0, 1, 0, 1), 10);
        DUE.is("k 2", x.rest(0, 1, 0, 2), -2);
        DUE.is("k 4", x.rest(0, 1, 0, 4), -2);
    }

    private static void calm() {
        DUE.says("Promise 30", "CALM (n 0 .. 6) in least terms, what 0: the number above, 1: the one below");
        int[] storms = {0, 1, 2, 5, 20, 25, 33, 50, 75, 80, 90, 96, 98, 99, 100};
        int[][] oneDay = {{1, 1}, {99, 100}, {49, 50}, {19, 20}, {4, 5}, {3, 4}, {67, 100}, {1, 2}, {1, 4}, {1, 5}, {1, 10}, {1, 25}, {1, 50},
            {1, 100}, {0, 1}};
        for (int i = 0; i < storms.length; i++) {
            PartsFerry x = DUE.ferry("storm " + storms[i] + ";");
            long above = 1;
            long below = 1;
            for (int n = 0; n <= 6; n++) {
                DUE.is("calm(" + n + ", 0) of " + storms[i], x.calm(n, 0), above);
                DUE.is("calm(" + n + ", 1) of " + storms[i], x.calm(n, 1), below);
                above *= oneDay[i][0];
                below *= oneDay[i][1];
            }
        }
    }

    private static void calmNoSuchOnes() {
        DUE.says("Promise 30", "NONE: no such ones");
        PartsFerry x = DUE.ferry("storm 30;");
        for (int n : new int[] {-1, 7, 8, MIN, MAX}) {
            DUE.is("calm(" + n + ", 0)", x.calm(n, 0), -1);
            DUE.is("calm(" + n + ", 1)", x.calm(n, 1), -1);
        }
        for (int what : new int[] {-1, 2, MIN, MAX}) {
            DUE.is("calm(0, " + what + ")", x.calm(0, what), -1);
            DUE.is("calm(6, " + what + ")", x.calm(6, what), -1);
        }
    }

    private static void whose() {
        DUE.says("Promise 31", "WHOSE; NONE: no such ones");
        PartsFerry x = DUE.ferry(FIVE_MEN + FIVE_SORTS);
        for (int man = 1; man < 5; man++) {
            x.swap(0, man, 4);
        }
        for (int man = 0; man < 5; man++) {
            DUE.is("whose(" + man + ", 4)", x.whose(man, 4), (man + 1) % 5);
            DUE.is("holds(" + man + ", 4)", x.holds(man, 4), (man + 4) % 5);
            DUE.is("whose(" + man + ", 0)", x.whose(man, 0), man);
        }
        for (int wrong : WRONG) {
            DUE.is("whose(" + wrong + ", 0)", x.whose(wrong, 0), -1);
            DUE.is("whose(0, " + wrong + ")", x.whose(0, wrong), -1);
        }
        PartsFerry two = DUE.ferry("man a 9;man b 9;sort s 1 1;");
        DUE.is("whose(2, 0) of two", two.whose(2, 0), -1);
        DUE.is("whose(1, 1) of one sort", two.whose(1, 1), -1);
        DUE.is("whose(1, 0)", two.whose(1, 0), 1);
    }

    private static void lost() {
        DUE.says("Terms 3", "LOST: PEOPLE (bits) whose own PARTS are all held by others (nobody without SORTS)");
        DUE.is("without sorts", DUE.ferry(FIVE_MEN).those(0), 0);
        PartsFerry one = DUE.ferry(FIVE_MEN + "sort s 1 1;");
        DUE.is("nobody", one.those(0), 0);
        one.swap(0, 4, 0);
        DUE.is("two", one.those(0), 17);
        for (int man = 1; man < 4; man++) {
            one.swap(0, man, 0);
        }
        DUE.is("all five", one.those(0), 31);
        PartsFerry two = DUE.ferry(FIVE_MEN + "sort s 1 1;sort t 1 1;");
        two.swap(0, 1, 0);
        DUE.is("one of two sorts", two.those(0), 0);
        two.swap(1, 2, 1);
        DUE.is("both of one", two.those(0), 2);
    }

    private static void halves() {
        DUE.says("Terms 3", "HALVES: PEOPLE (bits) of whom PARTS that they HOLD lie at both PORTS");
        PartsFerry x = DUE.ferry(FIVE_MEN + "sort s 1 1;sort t 1 1;send a s 0;send e s 0;send b s 0;send b t 0;send a t 2;send e s 3;");
        int[] due = {0, 17, 17, 16, 0};
        for (int day = 0; day < 5; day++) {
            DUE.is("those(1) on day " + day, x.those(1), due[day]);
            x.go(1);
        }
        PartsFerry y = DUE.ferry("man a 9;sort s 1 1;send a s 0;");
        y.go(1);
        DUE.is("one part has no halves", y.those(1), 0);
        DUE.is("without sorts", DUE.ferry("man a 9;").those(1), 0);
    }

    private static void dueToday() {
        DUE.says("Terms 3", "DUE: SENDINGS (bits) that are DUE today and haven't GONE");
        PartsFerry x = DUE.ferry("man a 99;man b 99;sort s 9 1;sort t 1 1;send a s 0;send b s 0;send a t 1;send b t 2;send a t 3;");
        int[] due = {3, 6, 14, 28, 28};
        for (int day = 0; day < 5; day++) {
            DUE.is("those(2) on day " + day, x.those(2), due[day]);
            if (day == 4) {
                x.take(2);
                DUE.is("taken back", x.those(2), 24);
                x.undo();
            }
            x.go(1);
        }
        PartsFerry full = DUE.ferry("man a 9;sort s 1 1;" + "send a s 0;".repeat(12));
        DUE.is("all twelve", full.those(2), 4095);
    }

    private static void thoseOfAnotherWhat() {
        DUE.says("Promise 32", "NONE for another what");
        PartsFerry x = DUE.ferry("man a 9;sort s 1 1;send a s 0;");
        for (int what : new int[] {-1, 3, 4, MIN, MAX}) {
            DUE.is("those(" + what + ")", x.those(what), -1);
        }
    }
}
