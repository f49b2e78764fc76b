import java.util.NoSuchElementException;

/** The boundary cases that promises 6 to 14 name, sentence by sentence. */
final class Edges6To14Test {
    private static final Due DUE = new Due("Edges6To14Test");
    private static final int MIN = Integer.MIN_VALUE;
    private static final int MAX = Integer.MAX_VALUE;
    private static final long ERROR = Long.MIN_VALUE;
    private static final int[] NO_PORTS = {-1, 2, 3, MIN, MAX};
    /** Five of each kind that has names, and all sendings and wants that there may be. */
    private static final String FULL = "man a 1;man b 2;man c 3;man d 4;man e 5;sort s 1 0;sort t 2 0;sort u 3 0;sort v 4 0;sort w 5 0;"
            + "deed f 1;deed g 2;deed h 4;deed i 8;deed j 16;" + "send a s 1;".repeat(11) + "send e w 99;"
            + "want a f 0 1 1;".repeat(7) + "want e j 1 98 97;law fare 3;law gain 4;law mix 5;";

    public static void main(String[] args) {
        whatOfAPerson();
        noSuchPerson();
        noSuchWhatOfAPerson();
        bothWrong();
        sorts();
        deeds();
        sendings();
        statesOfSendings();
        wants();
        statesOfWants();
        holds();
        ports();
        can();
        laws();
        lawsNow();
        noSuchLaw();
        noSuchOnesOfLaws();
        DUE.end();
    }

    private static void whatOfAPerson() {
        DUE.says("Promise 6", "Of a PERSON now, what 0 PENCE, 1 SORTS (bits) of which what that one HOLDS lies at port 1, "
                + "2 SORTS (bits) of which that one HOLDS the own PART, 3 how many WANTS were MET, 4 MISSED");
        PartsFerry x = DUE.ferry("man a 0;man b 999;sort s 1 0;sort t 1 0;sort u 1 0;sort v 1 0;sort w 1 0;deed d 31;deed e 0;"
                + "send b s 0;send b t 0;send b u 0;send b v 0;send b w 0;send a w 0;"
                + "want b d 0 0 0;want b d 1 0 0;want b d 1 1 0;want b d 0 1 0;want a d 0 1 0;want b e 0 2 0;");
        int[][][] due = {{{0, 0, 31, 0, 0}, {999, 0, 31, 0, 0}}, {{0, 16, 31, 0, 0}, {999, 31, 31, 1, 1}},
            {{0, 16, 31, 0, 1}, {999, 31, 31, 2, 2}}, {{0, 16, 31, 0, 1}, {999, 31, 31, 3, 2}}};
        for (int day = 0; day < 4; day++) {
            for (int man = 0; man < 2; man++) {
                for (int what = 0; what < 5; what++) {
                    DUE.is("man(" + man + ", " + what + ") on day " + day, x.man(man, what), due[day][man][what]);
                }
            }
            x.go(1);
        }
        x.swap(0, 1, 4);
        DUE.is("the own one of w is held by another", x.man(0, 2), 15);
        DUE.is("the port is that of what one holds", x.man(0, 1), 16);
        DUE.is("fives of each", DUE.ferry(FULL).man(4, 0), 5);
        DUE.is("all own", DUE.ferry(FULL).man(4, 2), 31);
        DUE.is("without sorts", DUE.ferry("man a 1;").man(0, 2), 0);
    }

    private static int thrown(PartsFerry x, int man, int what) {
        try {
            x.man(man, what);
        } catch (IndexOutOfBoundsException e) {
            return e.getClass() == IndexOutOfBoundsException.class ? 1 : 3;
        } catch (NoSuchElementException e) {
            return e.getClass() == NoSuchElementException.class ? 2 : 3;
        }
        return 0;
    }

    private static void noSuchPerson() {
        DUE.says("Promise 6", "IndexOutOfBoundsException: no such PERSON");
        PartsFerry one = DUE.ferry("man a 1;");
        PartsFerry five = DUE.ferry(FULL);
        for (int what = 0; what < 5; what++) {
            for (int man : new int[] {-1, MIN, MAX, 5, 6}) {
                DUE.is("man(" + man + ", " + what + ") of five", thrown(five, man, what), 1);
                DUE.is("man(" + man + ", " + what + ") of one", thrown(one, man, what), 1);
            }
            DUE.is("man(1, " + what + ") of one", thrown(one, 1, what), 1);
            DUE.is("man(0, " + what + ") of one", thrown(one, 0, what), 0);
            DUE.is("man(4, " + what + ") of five", thrown(five, 4, what), 0);
            DUE.is("man(0, " + what + ") of none", thrown(new PartsFerry(), 0, what), 1);
        }
    }

    private static void noSuchWhatOfAPerson() {
        DUE.says("Promise 6", "NoSuchElementException: no such what");
        PartsFerry x = DUE.ferry("man a 1;");
        for (int what : new int[] {-1, 5, 6, MIN, MAX}) {
            DUE.is("man(0, " + what + ")", thrown(x, 0, what), 2);
        }
        DUE.is("man(0, 0)", thrown(x, 0, 0), 0);
        DUE.is("man(0, 4)", thrown(x, 0, 4), 0);
    }

    private static void bothWrong() {
        PartsFerry x = DUE.ferry("man a 1;");
        DUE.is("man(1, 5): the person is looked at first", thrown(x, 1, 5), 1);
        DUE.is("man(-1, -1): the person is looked at first", thrown(x, -1, -1), 1);
        DUE.is("nothing changes by it", x.man(0, 0), 1);
    }

    private static void sorts() {
        DUE.says("Promise 7", "Of a SORT, what 0 SIZE, 1 RATE. NONE: no such ones");
        PartsFerry x = DUE.ferry("sort s 1 99;sort t 9 0;");
        DUE.is("sort(0, 0)", x.sort(0, 0), 1);
        DUE.is("sort(0, 1)", x.sort(0, 1), 99);
        DUE.is("sort(1, 0)", x.sort(1, 0), 9);
        DUE.is("sort(1, 1)", x.sort(1, 1), 0);
        for (int wrong : new int[] {-1, 2, 3, 5, MIN, MAX}) {
            DUE.is("sort(" + wrong + ", 0)", x.sort(wrong, 0), -1);
            DUE.is("sort(" + wrong + ", 1)", x.sort(wrong, 1), -1);
            DUE.is("sort(0, " + wrong + ")", x.sort(0, wrong), -1);
            DUE.is("sort(" + wrong + ", " + wrong + ")", x.sort(wrong, wrong), -1);
        }
        PartsFerry full = DUE.ferry(FULL);
        DUE.is("sort(4, 0) of five", full.sort(4, 0), 5);
        DUE.is("sort(5, 0) of five", full.sort(5, 0), -1);
    }

    private static void deeds() {
        DUE.says("Promise 8", "SORTS (bits) a DEED needs; NONE: no such DEED");
        PartsFerry x = DUE.ferry("deed d 0;deed e 31;");
        DUE.is("deed(0)", x.deed(0), 0);
        DUE.is("deed(1)", x.deed(1), 31);
        for (int wrong : new int[] {-1, 2, 5, MIN, MAX}) {
            DUE.is("deed(" + wrong + ")", x.deed(wrong), -1);
        }
        PartsFerry full = DUE.ferry(FULL);
        DUE.is("deed(4) of five", full.deed(4), 16);
        DUE.is("deed(5) of five", full.deed(5), -1);
    }

    private static void sendings() {
        DUE.says("Promise 9", "Of a SENDING now, what 0 the PERSON, 1 the SORT, 2 from which DAY, 3: 0 to go, 1 GONE, 2 taken back. NONE: no such ones");
        PartsFerry x = DUE.ferry("man a 9;man b 9;sort s 1 1;sort t 1 1;send b s 99;");
        int[] row = {1, 0, 99, 0};
        for (int what = 0; what < 4; what++) {
            DUE.is("sending(0, " + what + ")", x.sending(0, what), row[what]);
            for (int wrong : new int[] {-1, 1, 12, MIN, MAX}) {
                DUE.is("sending(" + wrong + ", " + what + ")", x.sending(wrong, what), -1);
            }
        }
        for (int wrong : new int[] {-1, 4, 5, MIN, MAX}) {
            DUE.is("sending(0, " + wrong + ")", x.sending(0, wrong), -1);
        }
        x.send(0, 1, 9999);
        int[] put = {0, 1, 9999, 0};
        for (int what = 0; what < 4; what++) {
            DUE.is("sending(1, " + what + ") put by call", x.sending(1, what), put[what]);
        }
        x.undo();
        DUE.is("sending(1, 0) undone", x.sending(1, 0), -1);
        PartsFerry full = DUE.ferry(FULL);
        int[] last = {4, 4, 99, 0};
        for (int what = 0; what < 4; what++) {
            DUE.is("sending(11, " + what + ") of twelve", full.sending(11, what), last[what]);
            DUE.is("sending(12, " + what + ") of twelve", full.sending(12, what), -1);
        }
    }

    private static void statesOfSendings() {
        PartsFerry x = DUE.ferry("man a 9;sort s 1 1;sort t 1 1;send a s 0;send a t 0;send a s 0;");
        x.take(1);
        int[][] due = {{0, 2, 0}, {1, 2, 0}, {1, 2, 1}};
        for (int day = 0; day < 3; day++) {
            for (int sending = 0; sending < 3; sending++) {
                DUE.is("sending(" + sending + ", 3) on day " + day, x.sending(sending, 3), due[day][sending]);
            }
            x.go(1);
        }
        DUE.is("its day stays", x.sending(0, 2), 0);
    }

    private static void wants() {
        DUE.says("Promise 10", "Of a WANT now, what 0 the PERSON, 1 the DEED, 2 the PORT, 3 the DAY, 4 WORTH, 5: 0 not yet, 1 MET, 2 MISSED. NONE: no such ones");
        PartsFerry x = DUE.ferry("man a 9;man b 9;deed d 1;deed e 1;want b e 1 99 98;");
        int[] row = {1, 1, 1, 99, 98, 0};
        for (int what = 0; what < 6; what++) {
            DUE.is("want(0, " + what + ")", x.want(0, what), row[what]);
            for (int wrong : new int[] {-1, 1, 8, MIN, MAX}) {
                DUE.is("want(" + wrong + ", " + what + ")", x.want(wrong, what), -1);
            }
        }
        for (int wrong : new int[] {-1, 6, 7, MIN, MAX}) {
            DUE.is("want(0, " + wrong + ")", x.want(0, wrong), -1);
        }
        PartsFerry full = DUE.ferry(FULL);
        int[] last = {4, 4, 1, 98, 97, 0};
        for (int what = 0; what < 6; what++) {
            DUE.is("want(7, " + what + ") of eight", full.want(7, what), last[what]);
            DUE.is("want(8, " + what + ") of eight", full.want(8, what), -1);
        }
    }

    private static void statesOfWants() {
        PartsFerry x = DUE.ferry("man a 9;sort s 1 1;deed d 1;want a d 0 1 5;want a d 1 1 5;");
        int[][] due = {{0, 0}, {0, 0}, {1, 2}, {1, 2}};
        for (int day = 0; day < 4; day++) {
            DUE.is("want(0, 5) on day " + day, x.want(0, 5), due[day][0]);
            DUE.is("want(1, 5) on day " + day, x.want(1, 5), due[day][1]);
            x.go(1);
        }
    }

    private static void noPart(PartsFerry x, int men, int sorts) {
        for (int wrong : new int[] {-1, 5, 6, MIN, MAX}) {
            noPartAt(x, wrong, 0);
            noPartAt(x, 0, wrong);
            noPartAt(x, wrong, wrong);
        }
        noPartAt(x, men, 0);
        noPartAt(x, 0, sorts);
    }

    private static void noPartAt(PartsFerry x, int man, int sort) {
        DUE.is("holds(" + man + ", " + sort + ")", x.holds(man, sort), -1);
        DUE.is("port(" + man + ", " + sort + ")", x.port(man, sort), -1);
    }

    private static void holds() {
        DUE.says("Promise 11", "Whose the PART of a SORT is that a PERSON HOLDS; NONE: no such ones");
        PartsFerry x = DUE.ferry("man a 9;man b 9;man c 9;sort s 1 1;sort t 1 1;");
        x.swap(0, 1, 0);
        x.swap(1, 2, 0);
        int[][] due = {{1, 0}, {2, 1}, {0, 2}};
        for (int man = 0; man < 3; man++) {
            DUE.is("holds(" + man + ", 0)", x.holds(man, 0), due[man][0]);
            DUE.is("holds(" + man + ", 1)", x.holds(man, 1), due[man][1]);
        }
        noPart(x, 3, 2);
        noPart(DUE.ferry(FULL), 5, 5);
        noPart(DUE.ferry("man a 1;"), 1, 0);
        noPart(DUE.ferry("sort s 1 1;"), 0, 1);
        DUE.is("holds(4, 4) of five", DUE.ferry(FULL).holds(4, 4), 4);
    }

    private static void ports() {
        DUE.says("Promise 12", "At which PORT (0, 1) it lies; NONE: no such ones");
        PartsFerry x = DUE.ferry("man a 9;man b 9;sort s 1 1;sort t 1 1;send b t 0;send b t 1;");
        int[] due = {0, 1, 0, 0};
        for (int day = 0; day < 4; day++) {
            DUE.is("port(1, 1) on day " + day, x.port(1, 1), due[day]);
            DUE.is("port(0, 1) on day " + day, x.port(0, 1), 0);
            DUE.is("port(1, 0) on day " + day, x.port(1, 0), 0);
            x.go(1);
        }
        noPart(x, 2, 2);
        DUE.is("port(4, 4) of five", DUE.ferry(FULL).port(4, 4), 0);
    }

    private static void can() {
        DUE.says("Promise 13", "Whether a PERSON CAN do a DEED at a PORT now (1, 0); NONE: no such ones");
        PartsFerry x = DUE.ferry("man a 9;man b 9;sort s 1 1;deed d 1;deed e 0;send a s 0;");
        DUE.is("can(0, 0, 0)", x.can(0, 0, 0), 1);
        DUE.is("can(0, 0, 1)", x.can(0, 0, 1), 0);
        x.go(1);
        DUE.is("can(0, 0, 0) then", x.can(0, 0, 0), 0);
        DUE.is("can(0, 0, 1) then", x.can(0, 0, 1), 1);
        DUE.is("can(0, 1, 0)", x.can(0, 1, 0), 1);
        DUE.is("can(0, 1, 1)", x.can(0, 1, 1), 1);
        for (int wrong : new int[] {-1, 2, 5, MIN, MAX}) {
            DUE.is("can(" + wrong + ", 0, 0)", x.can(wrong, 0, 0), -1);
            DUE.is("can(0, " + wrong + ", 0)", x.can(0, wrong, 0), -1);
            DUE.is("can(" + wrong + ", " + wrong + ", 0)", x.can(wrong, wrong, 0), -1);
        }
        for (int port : NO_PORTS) {
            DUE.is("can(0, 0, " + port + ")", x.can(0, 0, port), -1);
        }
        PartsFerry full = DUE.ferry(FULL);
        DUE.is("can(4, 4, 0) of five", full.can(4, 4, 0), 1);
        DUE.is("can(5, 4, 0) of five", full.can(5, 4, 0), -1);
        DUE.is("can(4, 5, 0) of five", full.can(4, 5, 0), -1);
    }

    private static void laws() {
        DUE.says("Promise 14", "what 0 fare of a PERSON for a SORT, 1 gain of a PERSON for a WANT, 2 mix of a SORT, the PERSON isn't looked at");
        PartsFerry x = DUE.ferry("man a 10;man b 20;sort s 1 5;sort t 2 6;deed d 0;want a d 0 9 30;want b d 0 9 40;"
                + "law fare pence*100+size*10+rate;law gain pence*100+worth;law mix size*10+rate;");
        DUE.is("law(0, 0, 0)", x.law(0, 0, 0), 1015);
        DUE.is("law(0, 1, 1)", x.law(0, 1, 1), 2026);
        DUE.is("law(1, 0, 0)", x.law(1, 0, 0), 1030);
        DUE.is("law(1, 1, 0)", x.law(1, 1, 0), 2030);
        DUE.is("law(1, 0, 1)", x.law(1, 0, 1), 1040);
        for (int man : new int[] {0, 1, 2, 5, -1, MIN, MAX}) {
            DUE.is("law(2, " + man + ", 0)", x.law(2, man, 0), 15);
            DUE.is("law(2, " + man + ", 1)", x.law(2, man, 1), 26);
        }
    }

    private static void lawsNow() {
        DUE.says("Promise 14", "The law's E now");
        PartsFerry x = DUE.ferry("man a 10;sort s 1 1;deed d 0;send a s 0;want a d 0 9 5;law fare day*1000+away*100+pence;law gain day;law mix day;");
        DUE.is("on day 0", x.law(0, 0, 0), 10);
        x.lend(0, 5);
        DUE.is("behind what was lent", x.law(0, 0, 0), 15);
        x.go(2);
        DUE.is("fare on day 2: 15 were paid", x.law(0, 0, 0), 2100);
        DUE.is("gain on day 2", x.law(1, 0, 0), 2);
        DUE.is("mix on day 2", x.law(2, 0, 0), 2);
        // what E says is not brought into 0 .. 999 here
        PartsFerry y = DUE.ferry("man a 10;sort s 1 1;deed d 0;want a d 0 9 5;law fare 0-5;law gain 5000;law mix 0-1;");
        DUE.is("fare below 0", y.law(0, 0, 0), -5);
        DUE.is("gain above 999", y.law(1, 0, 0), 5000);
        DUE.is("mix below 0", y.law(2, 0, 0), -1);
    }

    private static void noSuchLaw() {
        DUE.says("Promise 14", "Long.MIN_VALUE: an ERROR, no such law");
        String some = "man a 10;sort s 1 1;deed d 0;want a d 0 9 5;";
        String[] rules = {"fare", "gain", "mix"};
        for (int rule = 0; rule < 3; rule++) {
            PartsFerry x = DUE.ferry(some + "law " + rules[rule] + " 7;");
            PartsFerry wrong = DUE.ferry(some + "law " + rules[rule] + " 7/0;");
            for (int what = 0; what < 3; what++) {
                DUE.is("law(" + what + ", 0, 0) of " + rules[rule], x.law(what, 0, 0), what == rule ? 7 : ERROR);
                DUE.is("law(" + what + ", 0, 0) of an error", wrong.law(what, 0, 0), ERROR);
            }
        }
        PartsFerry all = DUE.ferry(some + "law fare 1;law gain 2;law mix 3;");
        for (int what : new int[] {-1, 3, 4, MIN, MAX}) {
            DUE.is("law(" + what + ", 0, 0)", all.law(what, 0, 0), ERROR);
        }
    }

    private static void noSuchOnesOfLaws() {
        DUE.says("Promise 14", "no such ones");
        PartsFerry x = DUE.ferry("man a 10;man b 1;sort s 1 1;sort t 1 1;sort u 1 1;deed d 0;want a d 0 9 5;law fare 1;law gain 2;law mix 3;");
        for (int wrong : new int[] {-1, MIN, MAX, 5, 8}) {
            DUE.is("law(0, " + wrong + ", 0)", x.law(0, wrong, 0), ERROR);
            DUE.is("law(0, 0, " + wrong + ")", x.law(0, 0, wrong), ERROR);
            DUE.is("law(1, " + wrong + ", 0)", x.law(1, wrong, 0), ERROR);
            DUE.is("law(1, 0, " + wrong + ")", x.law(1, 0, wrong), ERROR);
            DUE.is("law(2, 0, " + wrong + ")", x.law(2, 0, wrong), ERROR);
        }
        DUE.is("law(0, 1, 2)", x.law(0, 1, 2), 1);
        DUE.is("law(0, 2, 2)", x.law(0, 2, 2), ERROR);
        DUE.is("law(0, 1, 3)", x.law(0, 1, 3), ERROR);
        DUE.is("law(1, 1, 0)", x.law(1, 1, 0), 2);
        DUE.is("law(1, 2, 0)", x.law(1, 2, 0), ERROR);
        DUE.is("law(1, 1, 1)", x.law(1, 1, 1), ERROR);
        DUE.is("law(2, 0, 2)", x.law(2, 0, 2), 3);
        DUE.is("law(2, 0, 3)", x.law(2, 0, 3), ERROR);
        PartsFerry full = DUE.ferry(FULL);
        DUE.is("law(0, 4, 4) of five", full.law(0, 4, 4), 3);
        DUE.is("law(1, 4, 7) of eight", full.law(1, 4, 7), 4);
        DUE.is("law(2, 9, 4) of five", full.law(2, 9, 4), 5);
        DUE.is("law(0, 4, 5) of five", full.law(0, 4, 5), ERROR);
        DUE.is("law(1, 4, 8) of eight", full.law(1, 4, 8), ERROR);
        DUE.is("law(2, 9, 5) of five", full.law(2, 9, 5), ERROR);
    }
}
