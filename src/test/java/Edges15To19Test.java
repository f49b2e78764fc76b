/** The boundary cases that promises 15 to 19 name, sentence by sentence. */
final class Edges15To19Test {
    private static final Due DUE = new Due("Edges15To19Test");
    private static final int MIN = Integer.MIN_VALUE;
    private static final int MAX = Integer.MAX_VALUE;

    public static void main(String[] args) {
        sendingFromADay();
        sendingToday();
        sendingNoSuchOnes();
        thereAreTwelve();
        takingOnesThatHaventGone();
        takingNone();
        swapping();
        swappingNoSuchOnes();
        swappingAtTwoPorts();
        lending();
        lendingNoSuchOnes();
        muchPence();
        gainsOfMuchPence();
        going();
        goingNoSuchNumber();
        behind9900();
        DUE.end();
    }

    private static void sendingFromADay() {
        DUE.says("Promise 15", "from a DAY 0 .. 9999");
        PartsFerry x = DUE.ferry("man a 9;sort s 1 1;");
        DUE.is("day -1", x.send(0, 0, -1), -1);
        DUE.is("day MIN", x.send(0, 0, MIN), -1);
        DUE.is("day 10000", x.send(0, 0, 10000), -1);
        DUE.is("day MAX", x.send(0, 0, MAX), -1);
        DUE.is("none was put", x.count(3), 0);
        DUE.is("day 0", x.send(0, 0, 0), 0);
        DUE.is("day 9999", x.send(0, 0, 9999), 1);
        DUE.is("day 100, beyond what a text may say", x.send(0, 0, 100), 2);
        int[] days = {0, 9999, 100};
        for (int sending = 0; sending < 3; sending++) {
            DUE.is("day of " + sending, x.sending(sending, 2), days[sending]);
            DUE.is("state of " + sending, x.sending(sending, 3), 0);
        }
    }

    private static void sendingToday() {
        DUE.says("Promise 15", "today's at least");
        PartsFerry x = DUE.ferry("man a 9;sort s 1 1;");
        x.go(5);
        DUE.is("yesterday", x.send(0, 0, 4), -1);
        DUE.is("day 0", x.send(0, 0, 0), -1);
        DUE.is("today", x.send(0, 0, 5), 0);
        DUE.is("tomorrow", x.send(0, 0, 6), 1);
        for (int i = 0; i < 99; i++) {
            x.go(99);
        }
        DUE.is("the day", x.go(94), 9900);
        DUE.is("day 9899", x.send(0, 0, 9899), -1);
        DUE.is("day 9900", x.send(0, 0, 9900), 2);
        DUE.is("day 9999", x.send(0, 0, 9999), 3);
        DUE.is("day 10000", x.send(0, 0, 10000), -1);
    }

    private static void sendingNoSuchOnes() {
        DUE.says("Promise 15", "A SENDING is put: of a PERSON, of a SORT, from a DAY 0 .. 9999, today's at least: its number; NONE: no such ones");
        PartsFerry x = DUE.ferry("man a 9;man b 9;sort s 1 1;sort t 1 1;sort u 1 1;send a s 1;");
        for (int wrong : new int[] {-1, 5, MIN, MAX}) {
            DUE.is("send(" + wrong + ", 0, 0)", x.send(wrong, 0, 0), -1);
            DUE.is("send(0, " + wrong + ", 0)", x.send(0, wrong, 0), -1);
        }
        DUE.is("send(2, 0, 0)", x.send(2, 0, 0), -1);
        DUE.is("send(0, 3, 0)", x.send(0, 3, 0), -1);
        DUE.is("nothing to undo", x.count(15), 0);
        DUE.is("send(1, 2, 0)", x.send(1, 2, 0), 1);
        int[] row = {1, 2, 0, 0};
        for (int what = 0; what < 4; what++) {
            DUE.is("sending(1, " + what + ")", x.sending(1, what), row[what]);
        }
        x.go(1);
        DUE.is("it goes as those told do", x.port(1, 2), 1);
        DUE.is("and is paid", x.man(1, 0), 8);
    }

    private static void thereAreTwelve() {
        DUE.says("Promise 15", "there are 12");
        PartsFerry x = DUE.ferry("man a 9;sort s 1 1;" + "send a s 1;".repeat(11));
        DUE.is("the twelfth", x.send(0, 0, 5), 11);
        DUE.is("the thirteenth", x.send(0, 0, 5), -1);
        DUE.is("twelve", x.count(3), 12);
        DUE.is("take the last one", x.take(11), true);
        DUE.is("it is one of twelve still", x.send(0, 0, 5), -1);
        x.undo();
        DUE.is("undo the twelfth", x.undo(), 0);
        DUE.is("the twelfth again", x.send(0, 0, 6), 11);
        DUE.is("its day", x.sending(11, 2), 6);
        PartsFerry told = DUE.ferry("man a 9;sort s 1 1;" + "send a s 0;".repeat(12));
        DUE.is("twelve told", told.send(0, 0, 5), -1);
        told.go(3);
        DUE.is("three of them have gone", told.count(9), 3);
        DUE.is("and are of the twelve still", told.send(0, 0, 5), -1);
        PartsFerry none = DUE.ferry("man a 9;sort s 1 1;");
        for (int i = 0; i < 12; i++) {
            DUE.is("send " + i, none.send(0, 0, i), i);
        }
        DUE.is("send 12", none.send(0, 0, 12), -1);
    }

    private static void takingOnesThatHaventGone() {
        DUE.says("Promise 16", "A SENDING that hasn't GONE is taken back: true");
        PartsFerry x = DUE.ferry("man a 9;sort s 1 1;send a s 0;send a s 99;");
        DUE.is("take(0)", x.take(0), true);
        DUE.is("take(1), not due yet", x.take(1), true);
        DUE.is("state of 0", x.sending(0, 3), 2);
        DUE.is("state of 1", x.sending(1, 3), 2);
        x.go(3);
        DUE.is("nothing went", x.count(9), 0);
        DUE.is("nothing was paid", x.man(0, 0), 9);
        PartsFerry y = DUE.ferry("man a 9;sort s 1 1;" + "send a s 99;".repeat(12));
        DUE.is("the last of twelve", y.take(11), true);
        DUE.is("one put by call", DUE.ferry("man a 9;sort s 1 1;").take(0), false);
        PartsFerry z = DUE.ferry("man a 9;sort s 1 1;");
        z.send(0, 0, 0);
        DUE.is("one put by call", z.take(0), true);
    }

    private static void takingNone() {
        DUE.says("Promise 16", "false: no such one, GONE, taken back already");
        PartsFerry x = DUE.ferry("man a 9;sort s 1 1;send a s 0;send a s 0;");
        for (int wrong : new int[] {-1, 2, 12, MIN, MAX}) {
            DUE.is("take(" + wrong + ")", x.take(wrong), false);
        }
        x.go(1);
        DUE.is("gone", x.take(0), false);
        DUE.is("it is gone still", x.sending(0, 3), 1);
        DUE.is("nothing to undo", x.count(15), 0);
        DUE.is("to go", x.take(1), true);
        DUE.is("taken back already", x.take(1), false);
        DUE.is("one to undo", x.count(15), 1);
        x.undo();
        DUE.is("undone, it can be taken again", x.take(1), true);
        PartsFerry twelve = DUE.ferry("man a 9;sort s 1 1;" + "send a s 99;".repeat(12));
        DUE.is("take(12) of twelve", twelve.take(12), false);
    }

    private static void swapping() {
        DUE.says("Promise 17", "Two PEOPLE HOLD their PARTS of a SORT the other way round");
        PartsFerry x = DUE.ferry("man a 9;man b 9;man c 9;man d 9;man e 9;sort s 1 1;sort t 1 1;sort u 1 1;sort v 1 1;sort w 1 1;");
        DUE.is("swap(0, 4, 4)", x.swap(0, 4, 4), true);
        DUE.is("holds(0, 4)", x.holds(0, 4), 4);
        DUE.is("holds(4, 4)", x.holds(4, 4), 0);
        DUE.is("other sorts stay", x.man(0, 2), 15);
        DUE.is("swap(4, 0, 4)", x.swap(4, 0, 4), true);
        DUE.is("all is right again", x.count(11), 0);
        DUE.is("no pence are paid", x.count(10), 45);
    }

    private static void swappingNoSuchOnes() {
        DUE.says("Promise 17", "false: no such ones, alike");
        PartsFerry x = DUE.ferry("man a 9;man b 9;sort s 1 1;");
        for (int wrong : new int[] {-1, 2, 5, MIN, MAX}) {
            DUE.is("swap(" + wrong + ", 0, 0)", x.swap(wrong, 0, 0), false);
            DUE.is("swap(0, " + wrong + ", 0)", x.swap(0, wrong, 0), false);
            DUE.is("swap(0, 1, " + wrong + ")", x.swap(0, 1, wrong), false);
        }
        DUE.is("no sort 1", x.swap(0, 1, 1), false);
        DUE.is("alike", x.swap(0, 0, 0), false);
        DUE.is("alike", x.swap(1, 1, 0), false);
        DUE.is("nothing to undo", x.count(15), 0);
        DUE.is("nothing mixed", x.count(11), 0);
    }

    private static void swappingAtTwoPorts() {
        DUE.says("Promise 17", "which must lie at one PORT");
        PartsFerry x = DUE.ferry("man a 9;man b 9;sort s 1 1;sort t 1 1;send a s 0;send b s 2;");
        DUE.is("both at port 0", x.swap(0, 1, 0), true);
        x.go(1);
        DUE.is("at two ports", x.swap(0, 1, 0), false);
        DUE.is("the other way", x.swap(1, 0, 0), false);
        DUE.is("it stays", x.holds(0, 0), 1);
        DUE.is("nothing to undo", x.count(15), 0);
        DUE.is("the other sort", x.swap(0, 1, 1), true);
        x.go(2);
        DUE.is("both at port 1", x.swap(0, 1, 0), true);
        DUE.is("own ones again", x.holds(0, 0), 0);
    }

    private static void lending() {
        DUE.says("Promise 18", "A PERSON has so many PENCE 1 .. 99 more: PENCE");
        PartsFerry x = DUE.ferry("man a 0;man b 999;");
        DUE.is("lend(0, 1)", x.lend(0, 1), 1);
        DUE.is("lend(0, 99)", x.lend(0, 99), 100);
        DUE.is("lend(1, 99)", x.lend(1, 99), 1098);
        DUE.is("pence", x.man(0, 0), 100);
        DUE.is("pence", x.man(1, 0), 1098);
    }

    private static void lendingNoSuchOnes() {
        DUE.says("Promise 18", "NONE: no such ones");
        PartsFerry x = DUE.ferry("man a 5;man b 7;");
        for (int pence : new int[] {0, 100, -1, MIN, MAX}) {
            DUE.is("lend(0, " + pence + ")", x.lend(0, pence), -1);
        }
        for (int man : new int[] {-1, 2, 5, MIN, MAX}) {
            DUE.is("lend(" + man + ", 5)", x.lend(man, 5), -1);
        }
        DUE.is("nothing was lent", x.count(10), 12);
        DUE.is("nothing to undo", x.count(15), 0);
    }

    /** More calls than an object is good for: no fewer come to so many pence, and here the bound holds still. */
    private static void muchPence() {
        DUE.says("Promise 18", "there would be more than 99999");
        PartsFerry x = DUE.ferry("man a 999;man b 0;");
        for (int i = 0; i < 999; i++) {
            x.lend(0, 99);
        }
        DUE.is("pence", x.man(0, 0), 99900);
        DUE.is("98 more", x.lend(0, 98), 99998);
        DUE.is("2 more", x.lend(0, 2), -1);
        DUE.is("it stays", x.man(0, 0), 99998);
        DUE.is("1 more", x.lend(0, 1), 99999);
        DUE.is("1 more", x.lend(0, 1), -1);
        DUE.is("99 more", x.lend(0, 99), -1);
        DUE.is("another one", x.lend(1, 99), 99);
    }

    private static void gainsOfMuchPence() {
        DUE.says("Terms 2", "99999 at most");
        int[][] due = {{98, 99998}, {99, 99999}, {100, 99999}, {999, 99999}};
        for (int[] row : due) {
            PartsFerry x = DUE.ferry("man a 999;deed d 0;want a d 0 0 1;law gain " + row[0] + ";");
            for (int i = 0; i < 999; i++) {
                x.lend(0, 99);
            }
            DUE.is("ahead by " + row[0], x.ahead(1, 3, 0), row[1]);
            x.go(1);
            DUE.is("gained " + row[0], x.man(0, 0), row[1]);
            DUE.is("met", x.want(0, 5), 1);
        }
    }

    private static void going() {
        DUE.says("Promise 19", "So many DAYS (0 .. 99) go by: which one it is");
        PartsFerry x = DUE.ferry("man a 50;sort s 1 1;deed d 0;send a s 0;want a d 0 0 5;storm 100;");
        DUE.is("go(0)", x.go(0), 0);
        DUE.is("nothing went", x.count(9) + x.count(7) + x.count(12), 0);
        DUE.is("go(1)", x.go(1), 1);
        DUE.is("one day's", x.count(12), 1);
        DUE.is("go(98)", x.go(98), 99);
        DUE.is("go(99)", x.go(99), 198);
        DUE.is("a storm each day", x.count(12), 198);
        DUE.is("the day", x.count(6), 198);
    }

    private static void goingNoSuchNumber() {
        DUE.says("Promise 19", "NONE, and none does: no such number");
        PartsFerry x = DUE.ferry("man a 50;sort s 1 1;send a s 0;storm 100;");
        for (int n : new int[] {-1, 100, 101, MIN, MAX}) {
            DUE.is("go(" + n + ")", x.go(n), -1);
        }
        DUE.is("the day", x.count(6), 0);
        DUE.is("storms", x.count(12), 0);
        DUE.is("gone", x.count(9), 0);
    }

    private static void behind9900() {
        DUE.says("Promise 19", "behind 9900");
        PartsFerry x = DUE.ferry("storm 100;");
        for (int i = 0; i < 99; i++) {
            x.go(99);
        }
        DUE.is("the day", x.go(98), 9899);
        DUE.is("go(2)", x.go(2), -1);
        DUE.is("none does", x.count(6), 9899);
        DUE.is("nor any storm", x.count(12), 9899);
        DUE.is("go(99)", x.go(99), -1);
        DUE.is("go(0)", x.go(0), 9899);
        DUE.is("go(1)", x.go(1), 9900);
        DUE.is("go(1)", x.go(1), -1);
        DUE.is("go(0)", x.go(0), 9900);
        DUE.is("go(MAX)", x.go(MAX), -1);
        DUE.is("ahead of 9900 one may look", x.ahead(99, 4, 0), 0);
        DUE.is("back at once by a text", x.text(0), 0);
        DUE.is("go(99)", x.go(99), 99);
    }
}
