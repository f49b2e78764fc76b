/** Promises 20 to 32: what comes of days ahead, what is best, what can be done, what is whose. */
final class AheadTest {
    private static final Due DUE = new Due("AheadTest");
    private static final String TWO = "man ann 20;man bo 50;sort foot 3 5;sort hand 2 4;sort head 5 9;deed dance 1;deed sew 6;"
            + "send ann foot 0;send bo foot 0;send ann hand 0;send bo head 0;"
            + "want ann dance 1 1 30;want bo sew 0 2 7;want ann sew 1 3 9;room 9;";

    public static void main(String[] args) {
        ahead();
        aheadAsItGoes();
        first();
        load();
        loadOfMuchRoom();
        loadOnceEach();
        order();
        orderOfFewer();
        orderFromOddDays();
        swaps();
        together();
        needs();
        rests();
        calm();
        whose();
        those();
        DUE.end();
    }

    private static void ahead() {
        PartsFerry x = DUE.ferry(TWO);
        int[][] due = {{0, 0, 0, 20, 0}, {0, 0, 3, 11, 0}, {1, 0, 3, 41, 0}, {2, 0, 4, 41, 0}, {2, 1, 4, 41, 0}};
        for (int n = 0; n < due.length; n++) {
            for (int what = 0; what < 5; what++) {
                DUE.is("ahead(" + n + ", " + what + ", 0)", x.ahead(n, what, 0), due[n][what]);
            }
        }
        DUE.is("pence of bo", x.ahead(3, 3, 1), 43);
        DUE.is("nobody, not looked at", x.ahead(4, 0, -7), 2);
        DUE.is("nobody, not looked at", x.ahead(4, 4, 9), 0);
        DUE.is("nobody", x.ahead(4, 3, 2), -1);
        DUE.is("nobody", x.ahead(4, 3, -1), -1);
        DUE.is("what 5", x.ahead(4, 5, 0), -1);
        DUE.is("what -1", x.ahead(4, -1, 0), -1);
        DUE.is("n -1", x.ahead(-1, 0, 0), -1);
        DUE.is("n 100", x.ahead(100, 0, 0), -1);
        DUE.is("n 99", x.ahead(99, 0, 0), 2);
        DUE.is("no day went by", x.count(6), 0);
        DUE.is("nothing went", x.count(9), 0);
        x.go(2);
        DUE.is("more from now on", x.ahead(2, 0, 0), 1);
        DUE.is("missed more", x.ahead(2, 1, 0), 1);
        DUE.is("gone more", x.ahead(2, 2, 0), 1);
    }

    private static void aheadAsItGoes() {
        String two = "man a 9;man b 9;sort s 1 0;send a s 0;send b s 0;seed 7;storm ";
        DUE.is("50", DUE.ferry(two + "50;").ahead(1, 4, 0), 2);
        DUE.is("49", DUE.ferry(two + "49;").ahead(1, 4, 0), 0);
        DUE.is("100", DUE.ferry(two + "100;").ahead(1, 4, 0), 2);
        DUE.is("0", DUE.ferry(two + "0;").ahead(1, 4, 0), 0);
        PartsFerry x = DUE.ferry(two + "0;");
        x.swap(0, 1, 0);
        DUE.is("mixed now", x.ahead(0, 4, 0), 2);
    }

    private static void first() {
        PartsFerry x = DUE.ferry(TWO);
        DUE.is("dance at 1", x.first(0, 0, 1), 1);
        DUE.is("sew at 1", x.first(0, 1, 1), -2);
        DUE.is("sew at 0", x.first(0, 1, 0), 0);
        DUE.is("no deed", x.first(0, 2, 0), -1);
        DUE.is("no deed", x.first(0, -1, 0), -1);
        DUE.is("nobody", x.first(2, 0, 0), -1);
        DUE.is("nobody", x.first(-1, 0, 0), -1);
        DUE.is("no port", x.first(0, 0, 2), -1);
        DUE.is("no port", x.first(0, 0, -1), -1);
        DUE.is("the day stays", x.count(6), 0);
        x = DUE.ferry("man a 9;sort s 1 0;deed d 1;send a s 98;");
        DUE.is("99", x.first(0, 0, 1), 99);
        x = DUE.ferry("man a 9;sort s 1 0;deed d 1;send a s 99;");
        DUE.is("100 is too late", x.first(0, 0, 1), -2);
        x.go(2);
        DUE.is("99 from day 2 on", x.first(0, 0, 1), 99);
    }

    private static void load() {
        PartsFerry x = DUE.ferry(TWO);
        DUE.is("load(0)", x.load(0), 7);
        DUE.is("load(1)", x.load(1), 14);
        DUE.is("load(2)", x.load(2), -1);
        DUE.is("load(-1)", x.load(-1), -1);
        x.go(1);
        DUE.is("nothing is to go back", x.load(0), 0);
        x.send(0, 0, 1);
        DUE.is("but this", x.load(0), 16);
        DUE.is("its rate", x.load(1), 5);
        String sorts = "man a 0;sort s 3 5;sort t 2 5;sort u 4 9;sort v 1 0;";
        x = DUE.ferry(sorts + "send a s 0;send a t 0;send a u 0;send a v 0;room 5;");
        DUE.is("rates 10 of s and t", x.load(0), 3);
        DUE.is("10", x.load(1), 10);
        x = DUE.ferry(sorts + "send a u 0;send a s 0;send a t 0;send a v 0;room 4;");
        DUE.is("u, without what has no rate", x.load(0), 1);
        x = DUE.ferry(sorts + "send a s 1;send a t 0;send a v 0;room 9;");
        DUE.is("not due yet", x.load(0), 2);
        x = DUE.ferry("man a 0;man b 0;sort s 3 5;send b s 0;send a s 0;room 5;");
        DUE.is("the least bits of several", x.load(0), 1);
        x.take(0);
        DUE.is("not what was taken back", x.load(0), 2);
    }

    private static void loadOfMuchRoom() {
        StringBuilder text = new StringBuilder("man a 0;man b 0;man c 0;man d 0;sort s 9 7;sort t 3 2;room 30;");
        for (char man = 'a'; man <= 'd'; man++) {
            text.append("send ").append(man).append(" s 0;send ").append(man).append(" t 0;");
        }
        PartsFerry x = DUE.ferry(text.toString());
        DUE.is("three of 9 and one of 3", x.load(0), 1 | 2 | 4 | 16);
        DUE.is("their rates", x.load(1), 23);
        for (int sending = 0; sending < 8; sending++) {
            x.take(sending);
        }
        DUE.is("nothing any more", x.load(0), 0);
        DUE.is("no rates", x.load(1), 0);
    }

    private static void loadOnceEach() {
        PartsFerry x = DUE.ferry("man a 0;sort s 1 5;sort t 9 6;send a t 0;send a s 0;send a s 0;send a s 0;room 9;");
        DUE.is("each part once", x.load(0), 1);
        DUE.is("so not 15", x.load(1), 6);
        x.take(0);
        DUE.is("the least bits", x.load(0), 2);
        DUE.is("5", x.load(1), 5);
    }

    private static void order() {
        PartsFerry x = DUE.ferry(TWO);
        int[] due = {0, 1, 2, 3, 14};
        for (int what = 0; what < 5; what++) {
            DUE.is("order(" + what + ")", x.order(what), due[what]);
        }
        DUE.is("order(5)", x.order(5), Integer.MIN_VALUE);
        DUE.is("order(-1)", x.order(-1), Integer.MIN_VALUE);
        DUE.is("all stays", x.sending(3, 2), 0);
        // the third sending must go first to be there on day 1, the fifth one has its own day
        x = DUE.ferry("man a 50;man b 50;sort s 1 1;sort t 1 2;deed d 2;send b s 0;send a s 0;send b t 9;send a t 9;send a s 0;"
                + "want b d 1 1 20;want a d 1 3 30;");
        int[] better = {2, 3, 0, 1, 50 - 6 - 1};
        for (int what = 0; what < 5; what++) {
            DUE.is("order(" + what + ") by wants", x.order(what), better[what]);
        }
    }

    private static void orderOfFewer() {
        PartsFerry x = DUE.ferry("man a 9;sort s 1 3;deed d 0;send a s 0;send a s 0;send a s 5;want a d 0 20 9;want a d 0 19 1;");
        DUE.is("first", x.order(0), 0);
        DUE.is("third", x.order(2), 2);
        DUE.is("not so many", x.order(3), -2);
        DUE.is("below 0", x.order(4), 1 - 9);
        x.take(0);
        DUE.is("without what was taken back", x.order(0), 1);
        DUE.is("two", x.order(2), -2);
        DUE.is("6 less", x.order(4), 1 - 6);
        x.go(6);
        DUE.is("none is left", x.order(0), -2);
        DUE.is("two wants come", x.order(4), 10);
    }

    private static void orderFromOddDays() {
        // of two rows that have as much the first one by sendings
        PartsFerry x = DUE.ferry("man a 99;sort s 1 1;sort t 1 1;send a s 7;send a t 3;");
        DUE.is("0 first", x.order(0), 0);
        DUE.is("then 1", x.order(1), 1);
        // from day 1 on: the boat for port 0 goes on even days, so each waits a day
        x = DUE.ferry("man a 99;sort s 1 1;sort t 1 1;deed d 2;send a s 0;send a t 0;want a d 1 3 50;law fare rate*(day>0)+(day=0)*999;");
        x.go(1);
        DUE.is("t first", x.order(0), 1);
        DUE.is("then s", x.order(1), 0);
        DUE.is("48 more", x.order(4), 48);
    }

    private static void swaps() {
        PartsFerry x = DUE.ferry("man a 9;man b 9;man c 9;man d 9;man e 9;sort s 1 1;sort t 1 1;");
        DUE.is("none", x.swaps(), 0);
        x.swap(0, 1, 0);
        DUE.is("one", x.swaps(), 1);
        x.swap(2, 3, 0);
        DUE.is("two", x.swaps(), 2);
        x.swap(1, 2, 0);
        DUE.is("a ring of four", x.swaps(), 3);
        x.swap(0, 2, 0);
        DUE.is("two rings", x.swaps(), 2);
        x.swap(4, 3, 1);
        x.swap(4, 2, 1);
        DUE.is("and one of three of t", x.swaps(), 4);
    }

    private static void together() {
        PartsFerry x = DUE.ferry("man a 99;man b 99;man c 9;sort s 1 1;sort t 1 1;sort u 1 1;deed d 1;deed e 3;deed f 7;deed g 0;deed h 24;"
                + "send a s 0;send b t 0;");
        DUE.is("all at 0", x.together(0, 1, 0), 31);
        DUE.is("what needs nothing at 1", x.together(0, 1, 1), 24);
        x.go(1);
        DUE.is("s of a, t of b at 1", x.together(0, 1, 1), 27);
        DUE.is("the other way round", x.together(1, 0, 1), 27);
        DUE.is("a and c at 1", x.together(0, 2, 1), 25);
        DUE.is("all at 0 still", x.together(0, 1, 0), 31);
        x.send(0, 1, 2);
        x.go(2);
        DUE.is("t of both is at 1", x.together(0, 1, 0), 25);
        DUE.is("alike", x.together(1, 1, 0), -1);
        DUE.is("nobody", x.together(3, 1, 0), -1);
        DUE.is("nobody", x.together(1, 3, 0), -1);
        DUE.is("nobody", x.together(-1, 1, 0), -1);
        DUE.is("no port", x.together(0, 1, 2), -1);
        DUE.is("no port", x.together(0, 1, -1), -1);
    }

    private static void needs() {
        PartsFerry x = DUE.ferry("man a 99;man b 9;sort s 1 3;sort t 1 5;sort u 1 9;deed d 7;deed e 5;deed f 24;send a s 0;");
        x.go(1);
        int[][] due = {{0, 0, 0, 1, 3}, {0, 0, 1, 6, 14}, {0, 1, 0, 1, 3}, {0, 1, 1, 4, 9}, {1, 0, 0, 0, 0}, {1, 0, 1, 7, 17},
            {0, 2, 1, 0, 0}, {2, 0, 0, -1, -1}, {-1, 0, 0, -1, -1}, {0, 3, 0, -1, -1}, {0, -1, 0, -1, -1}, {0, 0, 2, -1, -1},
            {0, 0, -1, -1, -1}};
        for (int[] row : due) {
            String ask = "(" + row[0] + ", " + row[1] + ", " + row[2] + ")";
            DUE.is("needs" + ask, x.needs(row[0], row[1], row[2]), row[3]);
            DUE.is("cheap" + ask, x.cheap(row[0], row[1], row[2]), row[4]);
        }
    }

    private static void restsAre(PartsFerry x, int one, int other, int sort, int... rests) {
        String ask = "(" + one + ", " + other + ", " + sort + ")";
        DUE.is("rests" + ask, x.rests(one, other, sort), rests.length);
        for (int k = 0; k < rests.length; k++) {
            DUE.is("rest " + k + " of " + ask, x.rest(one, other, sort, k), rests[k]);
        }
        DUE.is("one more rest of " + ask, x.rest(one, other, sort, rests.length), -2);
    }

    private static void rests() {
        PartsFerry x = DUE.ferry("man a 99;man b 99;sort s 1 5;sort t 1 0;sort u 1 4;sort v 1 1;send a s 0;send a t 0;send a u 0;send b u 0;send a v 0;");
        restsAre(x, 0, 1, 0, 1, 10);
        restsAre(x, 0, 1, 1, 0, 1, 10, 11);
        restsAre(x, 0, 1, 2, 1, 10);
        x.go(1);
        // a has four more by this one, b one more
        restsAre(x, 0, 1, 0, 1, 10);
        restsAre(x, 1, 0, 0, 1, 10);
        restsAre(x, 0, 1, 1, 0);
        restsAre(x, 0, 1, 2, 1);
        restsAre(x, 0, 1, 3, 0, 1);
        restsAre(x, 1, 0, 3, 0, 10);
        int[][] wrong = {{0, 0, 0}, {2, 0, 0}, {0, 2, 0}, {-1, 0, 0}, {0, -1, 0}, {0, 1, 4}, {0, 1, -1}};
        for (int[] ask : wrong) {
            DUE.is("rests of none", x.rests(ask[0], ask[1], ask[2]), -1);
            DUE.is("rest of none", x.rest(ask[0], ask[1], ask[2], 0), -1);
            DUE.is("rest 9 of none", x.rest(ask[0], ask[1], ask[2], 9), -1);
        }
        DUE.is("k below 0", x.rest(0, 1, 0, -1), -1);
    }

    private static void calm() {
        PartsFerry x = DUE.ferry("storm 30;");
        long[][] due = {{1, 1}, {7, 10}, {49, 100}, {343, 1000}, {2401, 10000}, {16807, 100000}, {117649, 1000000}};
        for (int n = 0; n < due.length; n++) {
            DUE.is("calm(" + n + ", 0)", x.calm(n, 0), due[n][0]);
            DUE.is("calm(" + n + ", 1)", x.calm(n, 1), due[n][1]);
        }
        DUE.is("n 7", x.calm(7, 0), -1);
        DUE.is("n -1", x.calm(-1, 0), -1);
        DUE.is("what 2", x.calm(1, 2), -1);
        DUE.is("what -1", x.calm(1, -1), -1);
        DUE.is("99 of a hundred", DUE.ferry("storm 1;").calm(6, 0), 941480149401L);
        DUE.is("a hundred", DUE.ferry("storm 1;").calm(6, 1), 1000000000000L);
        DUE.is("never calm", DUE.ferry("storm 100;").calm(6, 0), 0);
        DUE.is("by 1", DUE.ferry("storm 100;").calm(6, 1), 1);
        DUE.is("no day at all", DUE.ferry("storm 100;").calm(0, 0), 1);
        DUE.is("1 of 4", DUE.ferry("storm 75;").calm(2, 1), 16);
        DUE.is("always calm", DUE.ferry("storm 0;").calm(6, 1), 1);
    }

    private static void whose() {
        PartsFerry x = DUE.ferry("man a 9;man b 9;man c 9;sort s 1 1;sort t 1 1;");
        x.swap(0, 1, 1);
        x.swap(1, 2, 1);
        DUE.is("a's is held by c", x.whose(0, 1), 2);
        DUE.is("b's is held by a", x.whose(1, 1), 0);
        DUE.is("c's is held by b", x.whose(2, 1), 1);
        DUE.is("the other sort", x.whose(2, 0), 2);
        DUE.is("a holds b's", x.holds(0, 1), 1);
        int[][] wrong = {{3, 0}, {-1, 0}, {0, 2}, {0, -1}};
        for (int[] ask : wrong) {
            DUE.is("whose of none", x.whose(ask[0], ask[1]), -1);
        }
    }

    private static void those() {
        PartsFerry x = DUE.ferry("man a 99;man b 99;man c 99;sort s 1 1;sort t 1 1;send a s 0;send c t 1;send b s 3;send b t 3;");
        DUE.is("nobody is lost", x.those(0), 0);
        DUE.is("nobody is in halves", x.those(1), 0);
        DUE.is("the first one is due", x.those(2), 1);
        x.swap(0, 1, 0);
        DUE.is("one sort is not all", x.those(0), 0);
        x.swap(1, 2, 1);
        DUE.is("b has lost all", x.those(0), 2);
        x.go(1);
        DUE.is("a is in halves", x.those(1), 1);
        DUE.is("the second one is due", x.those(2), 2);
        x.go(1);
        DUE.is("it waits for the boat", x.those(2), 2);
        x.go(1);
        DUE.is("a and c", x.those(1), 5);
        DUE.is("two others are due", x.those(2), 12);
        x.take(2);
        DUE.is("not what was taken back", x.those(2), 8);
        x.go(2);
        DUE.is("gone", x.those(2), 0);
        DUE.is("what 3", x.those(3), -1);
        DUE.is("what -1", x.those(-1), -1);
        DUE.is("nobody without sorts", DUE.ferry("man a 1;man b 1;").those(0), 0);
    }
}
