/** Promises 37 to 42: chance, what is tried, undone, kept, counted. */
final class TrialsTest {
    private static final Due DUE = new Due("TrialsTest");

    public static void main(String[] args) {
        chance();
        chanceByNumbers();
        tried();
        triedOtherwise();
        undo();
        undoTwenty();
        undoBehindDays();
        images();
        counts();
        DUE.end();
    }

    private static void chance() {
        PartsFerry x = DUE.ferry("man a 9;man b 9;sort s 1 0;send a s 0;send b s 0;storm 100;");
        DUE.is("always", x.chance(0, 1, 2), 10);
        DUE.is("never so many", x.chance(0, 1, 3), 0);
        DUE.is("none at least", x.chance(0, 1, 0), 10);
        DUE.is("25", x.chance(0, 99, 25), 0);
        DUE.is("26", x.chance(0, 1, 26), -1);
        DUE.is("-1", x.chance(0, 1, -1), -1);
        DUE.is("n 0", x.chance(0, 0, 1), -1);
        DUE.is("n 100", x.chance(0, 100, 1), -1);
        DUE.is("seed -1", x.chance(-1, 1, 1), -1);
        DUE.is("the greatest seed", x.chance(Integer.MAX_VALUE, 1, 2), 10);
        DUE.is("all stays", x.count(11) + x.count(6) + x.count(12), 0);
        x = DUE.ferry("man a 9;man b 9;sort s 1 0;send a s 0;send b s 0;");
        DUE.is("no storms", x.chance(0, 1, 1), 0);
        x.swap(0, 1, 0);
        DUE.is("from now on", x.chance(0, 1, 2), 10);
    }

    /** Ten times one behind another: the numbers go on from where the time ahead left them. */
    private static void chanceByNumbers() {
        PartsFerry x = DUE.ferry("man a 9;man b 9;sort s 1 0;send a s 0;send b s 0;storm 40;seed 3;");
        for (int seed : new int[] {0, 1, 77, 123456789, 2147483647}) {
            for (int n : new int[] {1, 2, 5}) {
                long last = seed;
                int times = 0;
                for (int time = 0; time < 10; time++) {
                    for (int day = 0; day < n; day++) {
                        last = (last * 1103515245L + 12345L) % 2147483648L;
                        times += day == 0 && last / 65536 % 100 < 40 ? 1 : 0;
                    }
                }
                DUE.is("chance(" + seed + ", " + n + ", 2)", x.chance(seed, n, 2), times);
            }
        }
    }

    private static void tried() {
        PartsFerry x = DUE.ferry("man a 20;man b 50;sort f 3 5;sort h 2 4;sort i 5 9;deed d 1;deed s 6;"
                + "send a f 0;send b f 0;send a h 0;send b i 0;want a d 1 1 30;want b s 0 2 7;want a s 1 3 9;");
        // without what a sends b's i goes on day 0, so b misses, too
        int[][] due = {{0, 0, 4, 2}, {1, 0, 4, 2}, {2, 0, 4, 0}, {2, 1, 4, 2}, {3, 0, 4, 1}, {4, 0, 4, 2}, {5, 0, 4, 2},
            {0, 0, 0, 0}, {0, 0, 99, 2}, {0, 0, 100, -1}, {0, 0, -1, -1}, {6, 0, 4, -1}, {-1, 0, 4, -1}, {2, 2, 4, -1},
            {2, -1, 4, -1}, {0, 1, 4, -1}, {1, 1, 4, -1}, {3, -1, 4, -1}, {4, 1, 4, -1}, {5, 1, 4, -1}};
        for (int[] row : due) {
            String ask = "tried(" + row[0] + ", " + row[1] + ", " + row[2] + ")";
            DUE.is(ask, x.tried(row[0], row[1], row[2]), row[3]);
        }
        DUE.is("all stays", x.count(6) + x.count(9), 0);
        x.go(2);
        DUE.is("more from now on", x.tried(0, 0, 2), 1);
    }

    private static void triedOtherwise() {
        PartsFerry x = DUE.ferry("man a 0;sort s 1 5;deed d 1;send a s 0;want a d 1 1 1;");
        DUE.is("can't pay", x.tried(0, 0, 2), 0);
        DUE.is("free", x.tried(4, 0, 2), 1);
        x = DUE.ferry("man a 3;sort s 1 0;deed d 1;send a s 0;want a d 1 1 1;law fare 50;");
        DUE.is("can't pay by law", x.tried(0, 0, 2), 0);
        DUE.is("free, whatever the law", x.tried(4, 0, 2), 1);
        x = DUE.ferry("man a 30;sort s 9 0;deed d 1;send a s 0;want a d 1 1 1;room 8;");
        DUE.is("no room", x.tried(0, 0, 2), 0);
        DUE.is("room 99", x.tried(3, 0, 2), 1);
        x = DUE.ferry("man a 30;man b 9;sort s 9 0;deed d 1;send a s 0;send b s 0;want b d 1 1 1;");
        DUE.is("b has no room", x.tried(0, 0, 2), 0);
        DUE.is("a sends nothing", x.tried(2, 0, 2), 1);
        DUE.is("b sends nothing", x.tried(2, 1, 2), 0);
        x.swap(0, 1, 0);
        x.go(1);
        DUE.is("ports stay", x.port(0, 0), 1);
        DUE.is("each holds the own ones", x.tried(5, 0, 1), 0);
        DUE.is("in the trial alone", x.count(11), 2);
    }

    private static void undo() {
        PartsFerry x = DUE.ferry("man a 9;man b 9;sort s 1 1;send a s 5;");
        x.send(1, 0, 7);
        x.take(0);
        x.swap(0, 1, 0);
        x.lend(1, 40);
        x.take(1);
        DUE.is("five", x.count(15), 5);
        DUE.is("undo take", x.undo(), 4);
        DUE.is("to go again", x.sending(1, 3), 0);
        DUE.is("the other one not", x.sending(0, 3), 2);
        DUE.is("undo lend", x.undo(), 3);
        DUE.is("pence", x.man(1, 0), 9);
        DUE.is("undo swap", x.undo(), 2);
        DUE.is("own ones", x.count(11), 0);
        DUE.is("undo take", x.undo(), 1);
        DUE.is("to go again", x.sending(0, 3), 0);
        DUE.is("undo send", x.undo(), 0);
        DUE.is("no such sending", x.sending(1, 3), -1);
        DUE.is("one sending", x.count(3), 1);
        DUE.is("none", x.undo(), -1);
        x.lend(0, 100);
        x.take(9);
        x.swap(0, 0, 0);
        x.send(0, 0, -1);
        DUE.is("what wasn't done can't be undone", x.undo(), -1);
        DUE.is("the number again", x.send(0, 0, 3), 1);
    }

    private static void undoTwenty() {
        PartsFerry x = DUE.ferry("man a 0;");
        for (int i = 1; i <= 25; i++) {
            x.lend(0, i);
            DUE.is("can be undone", x.count(15), Math.min(i, 20));
        }
        for (int left = 19; left >= 0; left--) {
            DUE.is("undo", x.undo(), left);
        }
        DUE.is("none", x.undo(), -1);
        DUE.is("the first five stay", x.man(0, 0), 15);
    }

    private static void undoBehindDays() {
        PartsFerry x = DUE.ferry("man a 0;");
        x.lend(0, 5);
        x.go(0);
        DUE.is("no day went by", x.count(15), 1);
        x.go(100);
        DUE.is("nor here", x.count(15), 1);
        x.go(1);
        DUE.is("a day went by", x.undo(), -1);
        DUE.is("pence stay", x.man(0, 0), 5);
        x.lend(0, 5);
        x.keep();
        DUE.is("an image leaves it", x.undo(), 0);
        x.lend(0, 1);
        x.back();
        DUE.is("nothing to undo then", x.count(15), 0);
        DUE.is("as it was kept", x.man(0, 0), 10);
    }

    private static void images() {
        PartsFerry x = DUE.ferry("man a 50;man b 50;sort s 1 1;deed d 1;send a s 1;send b s 1;want a d 0 1 3;want a d 0 3 3;storm 60;seed 8;");
        DUE.is("none", x.back(), -1);
        x.lend(0, 9);
        x.send(0, 0, 4);
        x.swap(0, 1, 0);
        x.take(1);
        x.go(2);
        DUE.is("keep", x.keep(), 2);
        int[] counts = counts(x);
        x.undo();
        x.send(1, 0, 9);
        x.swap(0, 1, 0);
        x.lend(0, 30);
        x.go(9);
        int storms = x.count(12);
        DUE.is("back", x.back(), 2);
        same("image", counts(x), counts);
        DUE.is("its sending", x.sending(2, 2), 4);
        DUE.is("no other", x.sending(3, 0), -1);
        DUE.is("taken back", x.sending(1, 3), 2);
        DUE.is("met", x.want(0, 5), 1);
        DUE.is("not yet", x.want(1, 5), 0);
        DUE.is("who holds", x.holds(0, 0), 1);
        x.go(9);
        DUE.is("the same storms", x.count(12), storms);
        DUE.is("back once more", x.back(), 2);
        x.go(1);
        DUE.is("another one in its place", x.keep(), 3);
        x.go(1);
        DUE.is("back to that", x.back(), 3);
    }

    private static int[] counts(PartsFerry x) {
        int[] counts = new int[13];
        for (int what = 0; what < 13; what++) {
            counts[what] = x.count(what);
        }
        return counts;
    }

    private static void same(String what, int[] got, int[] due) {
        for (int i = 0; i < due.length; i++) {
            DUE.is(what + ": count(" + i + ")", got[i], due[i]);
        }
    }

    private static void counts() {
        PartsFerry x = DUE.ferry("man a 50;man b 50;man c 1;sort s 1 1;sort t 1 9;deed d 1;send a s 0;send b s 0;send c t 0;send a t 90;"
                + "want a d 0 1 3;want a d 1 1 4;want b d 1 1 5;storm 100;law mix 1+size;");
        x.go(2);
        x.lend(2, 7);
        x.see(1, 0, 0, true);
        x.see(2, 0, 0, true);
        x.known(1);
        int[] due = {3, 2, 1, 4, 3, 3, 2, 2, 1, 2, 50 + 50 + 1 - 2 + 9 + 7, 2, 2, 2, 1, 1};
        for (int what = 0; what < due.length; what++) {
            DUE.is("count(" + what + ")", x.count(what), due[what]);
        }
        DUE.is("count(16)", x.count(16), -1);
        DUE.is("count(-1)", x.count(-1), -1);
    }
}
