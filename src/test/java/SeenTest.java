/** Promises 33 to 36: what was seen, and what the room may have been. */
final class SeenTest {
    private static final Due DUE = new Due("SeenTest");
    private static final String TEXT = "man a 99;man b 5;sort s 3 1;sort t 4 1;sort u 2 7;send a s 0;send a t 0;send b t 0;send b u 0;";

    public static void main(String[] args) {
        seeing();
        strikes();
        strikesOfStrikes();
        known();
        rooms();
        roomsFromTheTextOn();
        DUE.end();
    }

    private static void seeing() {
        PartsFerry x = DUE.ferry(TEXT);
        DUE.is("see", x.see(1, 0, 0, true), 0);
        DUE.is("see", x.see(40, 1, 2, false), 1);
        int[][] wrong = {{0, 0, 0}, {41, 0, 0}, {-1, 0, 0}, {1, 2, 0}, {1, -1, 0}, {1, 0, 3}, {1, 0, -1}};
        for (int[] ask : wrong) {
            DUE.is("see of none", x.see(ask[0], ask[1], ask[2], true), -1);
        }
        DUE.is("two", x.count(13), 2);
        DUE.is("out of none", x.out(2), -1);
        DUE.is("out of none", x.out(-1), -1);
        for (int i = 2; i < 24; i++) {
            DUE.is("see " + i, i % 2 == 0 ? x.see(5, 0, 0, true) : x.out(0), i);
        }
        DUE.is("there are 24", x.see(1, 0, 0, true), -1);
        DUE.is("there are 24", x.out(0), -1);
        DUE.is("24", x.count(13), 24);
        DUE.is("known by all", x.count(14), 24);
    }

    private static void strikes() {
        PartsFerry x = DUE.ferry(TEXT);
        DUE.is("all rooms", x.rooms(), 1023);
        x.see(1, 0, 0, true);
        DUE.is("3 and more", x.rooms(), 1020);
        x.see(1, 0, 1, false);
        DUE.is("below 7", x.rooms(), 60);
        DUE.is("out", x.out(0), 2);
        DUE.is("not s", x.rooms(), 63);
        x.see(1, 0, 0, true);
        DUE.is("seen again", x.rooms(), 60);
    }

    private static void strikesOfStrikes() {
        PartsFerry x = DUE.ferry(TEXT);
        x.see(1, 0, 0, true);
        x.out(0);
        DUE.is("struck", x.rooms(), 1023);
        DUE.is("strike the strike", x.out(1), 2);
        DUE.is("seen again", x.rooms(), 1020);
        DUE.is("strike that", x.out(2), 3);
        DUE.is("struck again", x.rooms(), 1023);
        x.out(3);
        DUE.is("and so on", x.rooms(), 1020);
        x.out(0);
        DUE.is("twice is no less", x.rooms(), 1023);
    }

    private static void known() {
        PartsFerry x = DUE.ferry(TEXT);
        DUE.is("n 0", x.known(0), true);
        x.see(1, 0, 0, true);
        DUE.is("known by none", x.rooms(), 1023);
        DUE.is("by none", x.count(14), 0);
        DUE.is("n 1", x.known(1), true);
        DUE.is("known by one", x.rooms(), 1020);
        x.out(0);
        DUE.is("by one still", x.rooms(), 1020);
        DUE.is("by one", x.count(14), 1);
        DUE.is("n 3", x.known(3), false);
        DUE.is("n -2", x.known(-2), false);
        DUE.is("it stays", x.count(14), 1);
        DUE.is("n 2", x.known(2), true);
        DUE.is("struck", x.rooms(), 1023);
        DUE.is("by all", x.known(-1), true);
        DUE.is("two of them", x.count(14), 2);
        x.out(1);
        DUE.is("those to come, too", x.rooms(), 1020);
        DUE.is("three of them", x.count(14), 3);
        x.known(2);
        DUE.is("the third one doesn't count", x.rooms(), 1023);
    }

    private static void rooms() {
        PartsFerry x = DUE.ferry(TEXT + "room 1;");
        x.see(1, 0, 1, true);
        DUE.is("t of a on day 0: alone, or behind s", x.rooms(), 1023 & ~63);
        x.see(2, 0, 1, true);
        DUE.is("nothing goes back", x.rooms(), 1023 & ~63);
        x.see(1, 1, 2, true);
        DUE.is("b can't pay u", x.rooms(), 0);
        x.out(2);
        x.see(1, 1, 1, true);
        DUE.is("3, 4 and 4", x.rooms(), 0);
        x.out(4);
        x.see(3, 1, 1, true);
        DUE.is("on day 2", x.rooms(), 1023 & ~63);
        x.see(2, 1, 1, false);
        DUE.is("not ahead of it", x.rooms(), 1023 & ~63);
        x = DUE.ferry("man a 9;sort s 9 1;send a s 39;");
        x.see(40, 0, 0, true);
        DUE.is("no boat on day 39", x.rooms(), 0);
        x = DUE.ferry("man a 9;sort s 9 1;send a s 38;");
        x.see(39, 0, 0, true);
        x.see(38, 0, 0, false);
        DUE.is("9 or 10", x.rooms(), 256 | 512);
    }

    private static void roomsFromTheTextOn() {
        PartsFerry x = DUE.ferry("man a 5;man b 5;sort s 3 1;send a s 0;storm 100;");
        x.see(1, 0, 0, true);
        DUE.is("3 and more", x.rooms(), 1020);
        x.take(0);
        x.send(1, 0, 0);
        x.lend(0, 9);
        DUE.is("nothing done by call", x.rooms(), 1020);
        x.go(9);
        DUE.is("nor by days", x.rooms(), 1020);
        x.keep();
        x.see(1, 1, 0, true);
        x.known(1);
        x.back();
        DUE.is("an image doesn't keep what was seen", x.count(13), 2);
        DUE.is("nor by how many it is known", x.count(14), 1);
        x.known(-1);
        DUE.is("b sent nothing", x.rooms(), 0);
    }
}
