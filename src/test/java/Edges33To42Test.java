/** The boundary cases that promises 33 to 42, and parts 3 and 4 of the terms for them, name, sentence by sentence. */
final class Edges33To42Test {
    private static final Due DUE = new Due("Edges33To42Test");
    private static final int MIN = Integer.MIN_VALUE;
    private static final int MAX = Integer.MAX_VALUE;
    /** A part of size 3 goes on day 0, one of size 5 beside it or on day 2: 3 is needed, 5 on day 2, 8 on day 0. */
    private static final String SEEN = "man a 9;man b 9;sort s 3 0;sort t 5 0;send a s 0;send b t 0;";
    private static final int ALL_ROOMS = 1023;
    private static final int FROM_3 = 1020;
    private static final int FROM_5 = 1008;
    private static final int FROM_8 = 896;

    public static void main(String[] args) {
        seenDays();
        seenNoSuchOnes();
        seenTwentyFour();
        struckTwentyFour();
        striking();
        strikesOfStrikes();
        strikesThatDontCount();
        knownByN();
        knownByAll();
        knownNoSuchN();
        roomsOneToTen();
        roomsInPlaceOfWhatWasTold();
        roomsOnTheDay();
        roomsFromTheTextOn();
        roomsAsItGoes();
        chanceOfTen();
        chanceOneBehindAnother();
        chanceNoSuchOnes();
        triedMore();
        triedNoStorms();
        triedWithoutOne();
        triedWithRoom();
        triedFree();
        triedWithOwnParts();
        triedOneThingAlone();
        triedNoSuchOnes();
        triedChangesNothing();
        undoEachKind();
        undoThatOneAlone();
        undoTheLatestFirst();
        undoTwentyAtMost();
        undoIfNoDayWentBy();
        undoOfWhatWasRefused();
        undoNone();
        keepInPlace();
        keepChangesNothing();
        backKeepsAll();
        backNothingToUndo();
        backButWhatWasSeen();
        backThereIsNone();
        countsOfWhatIsTold();
        countsOfWhatGoesBy();
        countsOfCalls();
        countOfAnotherWhat();
        theLastCall();
        DUE.end();
    }

    private static void seenDays() {
        DUE.says("Terms 3", "SEEN, at most 24, numbered from 0 on: behind so many DAYS 1 .. 40");
        PartsFerry x = DUE.ferry(SEEN);
        for (int days : new int[] {0, 41, -1, MIN, MAX}) {
            DUE.is("see(" + days + ", 0, 0, true)", x.see(days, 0, 0, true), -1);
        }
        DUE.is("none was seen", x.count(13), 0);
        DUE.is("see(1, 0, 0, true)", x.see(1, 0, 0, true), 0);
        DUE.is("see(40, 0, 0, true)", x.see(40, 0, 0, true), 1);
        DUE.is("two were seen", x.count(13), 2);
    }

    private static void seenNoSuchOnes() {
        DUE.says("Promise 33", "SEEN: its number; NONE: no such ones");
        PartsFerry x = DUE.ferry("man a 9;man b 9;sort s 1 0;sort t 1 0;sort u 1 0;");
        for (int wrong : new int[] {-1, 5, MIN, MAX}) {
            DUE.is("see(1, " + wrong + ", 0, true)", x.see(1, wrong, 0, true), -1);
            DUE.is("see(1, 0, " + wrong + ", false)", x.see(1, 0, wrong, false), -1);
        }
        DUE.is("see(1, 2, 0, true)", x.see(1, 2, 0, true), -1);
        DUE.is("see(1, 0, 3, true)", x.see(1, 0, 3, true), -1);
        DUE.is("see(1, 1, 2, true)", x.see(1, 1, 2, true), 0);
        DUE.is("see(1, 1, 2, false)", x.see(1, 1, 2, false), 1);
        DUE.is("both can't be", x.rooms(), 0);
    }

    private static void seenTwentyFour() {
        DUE.says("Promise 33", "or there are 24");
        PartsFerry x = DUE.ferry(SEEN);
        for (int i = 0; i < 24; i++) {
            DUE.is("see " + i, x.see(40, 0, 0, true), i);
        }
        DUE.is("see 24", x.see(40, 0, 0, true), -1);
        DUE.is("out 24", x.out(0), -1);
        DUE.is("24 were seen", x.count(13), 24);
        DUE.is("24 are known", x.count(14), 24);
        DUE.is("known(24)", x.known(24), true);
        DUE.is("known(25)", x.known(25), false);
        DUE.is("rooms", x.rooms(), FROM_3);
    }

    private static void struckTwentyFour() {
        DUE.says("Promise 34", "One that strikes one SEEN: its number; NONE: no such one, or there are 24");
        PartsFerry x = DUE.ferry(SEEN);
        for (int wrong : new int[] {-1, 0, 1, MIN, MAX}) {
            DUE.is("out(" + wrong + ") of none", x.out(wrong), -1);
        }
        x.see(1, 0, 0, true);
        for (int wrong : new int[] {-1, 1, 24, MIN, MAX}) {
            DUE.is("out(" + wrong + ") of one", x.out(wrong), -1);
        }
        for (int i = 1; i < 24; i++) {
            DUE.is("out(" + (i - 1) + ")", x.out(i - 1), i);
        }
        DUE.is("out(23)", x.out(23), -1);
        DUE.is("see", x.see(1, 0, 0, true), -1);
        DUE.is("24", x.count(13), 24);
        // the last one, 23, counts, so 22 doesn't, 21 does, and so on: 1 strikes what was seen
        DUE.is("rooms", x.rooms(), ALL_ROOMS);
        DUE.is("known(23)", x.known(23), true);
        DUE.is("rooms without the last one", x.rooms(), FROM_3);
        PartsFerry y = DUE.ferry(SEEN);
        for (int i = 0; i < 23; i++) {
            y.see(1, 0, 0, true);
        }
        DUE.is("the 24th strikes", y.out(22), 23);
        DUE.is("then there are 24", y.out(22), -1);
    }

    private static void striking() {
        DUE.says("Terms 3", "One may strike one ahead of it (STRUCK)");
        PartsFerry x = DUE.ferry(SEEN);
        x.see(1, 0, 0, true);
        x.see(1, 1, 1, true);
        DUE.is("both", x.rooms(), FROM_8);
        x.out(1);
        DUE.is("the first one", x.rooms(), FROM_3);
        x.out(0);
        DUE.is("none", x.rooms(), ALL_ROOMS);
        x.see(1, 1, 1, true);
        DUE.is("seen again", x.rooms(), FROM_8);
        x.out(0);
        x.out(1);
        DUE.is("struck twice is struck", x.rooms(), FROM_8);
        x.out(4);
        DUE.is("struck, too", x.rooms(), ALL_ROOMS);
    }

    private static void strikesOfStrikes() {
        DUE.says("Terms 3", "what strikes may be STRUCK: then it doesn't count; asked from the last one on");
        PartsFerry x = DUE.ferry(SEEN);
        x.see(1, 1, 1, true);
        for (int strike = 1; strike <= 10; strike++) {
            DUE.is("strike " + strike, x.out(strike - 1), strike);
            DUE.is("rooms behind strike " + strike, x.rooms(), strike % 2 == 1 ? ALL_ROOMS : FROM_8);
        }
        // two strike the same one: one of them struck isn't enough
        PartsFerry y = DUE.ferry(SEEN);
        y.see(1, 1, 1, true);
        y.out(0);
        y.out(0);
        y.out(1);
        DUE.is("the other strike counts still", y.rooms(), ALL_ROOMS);
        y.out(2);
        DUE.is("none of both counts", y.rooms(), FROM_8);
    }

    private static void strikesThatDontCount() {
        // 0 seen, 1 strikes 0, 2 seen, 3 strikes 1, 4 strikes 3
        PartsFerry x = DUE.ferry(SEEN);
        x.see(1, 0, 0, true);
        x.out(0);
        x.see(1, 1, 1, true);
        x.out(1);
        x.out(3);
        int[] due = {ALL_ROOMS, FROM_3, ALL_ROOMS, FROM_8, FROM_8, FROM_8};
        for (int n = 0; n <= 5; n++) {
            DUE.is("known(" + n + ")", x.known(n), true);
            DUE.is("rooms by " + n, x.rooms(), due[n]);
        }
        x.out(2);
        x.known(-1);
        DUE.is("0 is struck by 1, 2 by 5", x.rooms(), ALL_ROOMS);
        x.out(1);
        DUE.is("6 strikes 1: 0 counts", x.rooms(), FROM_3);
    }

    private static void knownByN() {
        DUE.says("Terms 3", "KNOWN by n (all at first): the first n that aren't STRUCK by one of these");
        PartsFerry x = DUE.ferry(SEEN);
        x.see(1, 0, 0, true);
        x.see(1, 1, 1, true);
        x.out(1);
        DUE.is("by all at first", x.rooms(), FROM_3);
        int[] due = {ALL_ROOMS, FROM_3, FROM_8, FROM_3};
        for (int n = 3; n >= 0; n--) {
            DUE.is("known(" + n + ")", x.known(n), true);
            DUE.is("rooms by " + n, x.rooms(), due[n]);
            DUE.is("count(14)", x.count(14), n);
        }
        DUE.is("three are seen still", x.count(13), 3);
        x.known(2);
        x.see(1, 0, 0, false);
        DUE.is("those to come aren't known", x.rooms(), FROM_8);
        DUE.is("known by two still", x.count(14), 2);
    }

    private static void knownByAll() {
        DUE.says("Promise 35", "KNOWN by n from now on (-1: by all, also those to come): true");
        PartsFerry x = DUE.ferry(SEEN);
        x.see(1, 0, 0, true);
        DUE.is("known(0)", x.known(0), true);
        DUE.is("by none", x.rooms(), ALL_ROOMS);
        DUE.is("known(-1)", x.known(-1), true);
        DUE.is("by all", x.rooms(), FROM_3);
        DUE.is("one", x.count(14), 1);
        x.see(1, 1, 1, true);
        DUE.is("also those to come", x.rooms(), FROM_8);
        DUE.is("two", x.count(14), 2);
    }

    private static void knownNoSuchN() {
        DUE.says("Promise 35", "false: no such n");
        PartsFerry x = DUE.ferry(SEEN);
        DUE.is("known(0) of none", x.known(0), true);
        DUE.is("known(1) of none", x.known(1), false);
        DUE.is("known(-1) of none", x.known(-1), true);
        x.see(1, 0, 0, true);
        x.out(0);
        DUE.is("known(1)", x.known(1), true);
        for (int n : new int[] {-2, 3, 24, 25, MIN, MAX}) {
            DUE.is("known(" + n + ")", x.known(n), false);
            DUE.is("it stays known by one", x.rooms(), FROM_3);
            DUE.is("by one", x.count(14), 1);
        }
        DUE.is("known(2)", x.known(2), true);
    }

    private static void roomsOneToTen() {
        DUE.says("Terms 3", "ROOMS: 1 .. 10 (bits 0 .. 9) that the room may be");
        DUE.is("nothing seen", DUE.ferry(SEEN).rooms(), ALL_ROOMS);
        for (int size = 1; size <= 9; size++) {
            PartsFerry x = DUE.ferry("man a 9;sort s " + size + " 0;send a s 0;");
            x.see(1, 0, 0, true);
            DUE.is("there with size " + size, x.rooms(), ALL_ROOMS >> (size - 1) << (size - 1));
            x.out(0);
            x.see(1, 0, 0, false);
            DUE.is("not there with size " + size, x.rooms(), (1 << (size - 1)) - 1);
        }
        DUE.says("Promise 36", "ROOMS (bits)");
        PartsFerry ten = DUE.ferry("man a 9;sort s 9 0;sort t 1 0;send a s 0;send a t 0;");
        ten.see(1, 0, 0, true);
        ten.see(1, 0, 1, true);
        DUE.is("10 alone", ten.rooms(), 512);
        PartsFerry one = DUE.ferry("man a 9;sort s 1 0;sort t 1 0;send a s 0;send a t 0;");
        one.see(1, 0, 0, true);
        one.see(1, 0, 1, false);
        DUE.is("1 alone", one.rooms(), 1);
        PartsFerry none = DUE.ferry("man a 9;sort s 9 0;sort t 2 0;send a s 0;send a t 0;");
        none.see(1, 0, 0, true);
        none.see(1, 0, 1, true);
        DUE.is("11 is none of them", none.rooms(), 0);
    }

    private static void roomsInPlaceOfWhatWasTold() {
        DUE.says("Terms 3", "in place of what was told, by which all KNOWN ones are so");
        for (int room : new int[] {1, 3, 10, 30}) {
            PartsFerry x = DUE.ferry(SEEN + "room " + room + ";");
            x.see(1, 1, 1, true);
            DUE.is("rooms with room " + room, x.rooms(), FROM_8);
            DUE.is("the room told stays", x.ahead(1, 2, 0), room < 3 ? 0 : room < 8 ? 1 : 2);
        }
    }

    private static void roomsOnTheDay() {
        DUE.says("Terms 3", "the PART of a SORT that a PERSON HOLDS lay at port 1, or didn't");
        PartsFerry x = DUE.ferry(SEEN);
        x.see(2, 1, 1, true);
        DUE.is("on day 2 as on day 1", x.rooms(), FROM_8);
        x.out(0);
        x.see(3, 1, 1, true);
        DUE.is("on day 3", x.rooms(), FROM_5);
        x.see(2, 1, 1, false);
        DUE.is("but not on day 2: 5, 6 and 7", x.rooms(), FROM_5 & ~FROM_8);
        x.see(40, 0, 0, false);
        DUE.is("a didn't go", x.rooms(), 0);
        PartsFerry late = DUE.ferry("man a 9;sort s 4 0;send a s 38;");
        late.see(38, 0, 0, false);
        DUE.is("not behind 38 days", late.rooms(), ALL_ROOMS);
        late.see(39, 0, 0, true);
        DUE.is("behind 39 days", late.rooms(), ALL_ROOMS & ~7);
        late.see(40, 0, 0, true);
        DUE.is("behind 40 days", late.rooms(), ALL_ROOMS & ~7);
    }

    private static void roomsFromTheTextOn() {
        DUE.says("Terms 3", "(as it goes from the TEXT on, nothing done by call)");
        PartsFerry x = DUE.ferry(SEEN + "deed d 0;want a d 0 0 9;");
        x.see(1, 0, 0, true);
        x.take(0);
        DUE.is("nothing taken back", x.rooms(), FROM_3);
        x.send(1, 0, 0);
        x.swap(0, 1, 0);
        DUE.is("nothing put nor swapped", x.rooms(), FROM_3);
        x.see(1, 1, 0, false);
        DUE.is("what b holds didn't go", x.rooms(), FROM_3);
        x.go(50);
        DUE.is("from the text on, on day 50, too", x.rooms(), FROM_3);
        DUE.is("all stays by it", x.count(6), 50);
        PartsFerry y = DUE.ferry("man a 4;sort s 3 5;send a s 0;");
        y.see(1, 0, 0, true);
        DUE.is("a has too few pence", y.rooms(), 0);
        y.lend(0, 9);
        DUE.is("nothing lent", y.rooms(), 0);
    }

    /** Where parts lie goes with who holds them: a storm swaps what two hold, and ports stay as without it. */
    private static void roomsAsItGoes() {
        DUE.says("Terms 3", "as it goes from the TEXT on");
        String text = "man a 9;man b 9;sort s 1 0;send a s 0;send b s 0;send a s 1;storm ";
        for (int storm : new int[] {0, 49, 50, 100}) {
            PartsFerry x = DUE.ferry(text + storm + ";seed 5;");
            x.see(2, 0, 0, false);
            x.see(2, 1, 0, true);
            DUE.is("rooms with storm " + storm, x.rooms(), ALL_ROOMS & ~1);
        }
    }

    private static final String TWO_ABOARD = "man a 9;man b 9;sort s 1 0;send a s 0;send b s 0;";

    private static void chanceOfTen() {
        DUE.says("Promise 37", "so many PARTS 0 .. 25 at least are MIXED then");
        PartsFerry always = DUE.ferry(TWO_ABOARD + "storm 100;");
        int[] due = {10, 10, 10, 0, 0};
        for (int mixed = 0; mixed < 5; mixed++) {
            DUE.is("chance(1, 1, " + mixed + ") always", always.chance(1, 1, mixed), due[mixed]);
        }
        DUE.is("chance(1, 1, 25)", always.chance(1, 1, 25), 0);
        PartsFerry never = DUE.ferry(TWO_ABOARD + "storm 0;");
        DUE.is("chance(1, 99, 0) never", never.chance(1, 99, 0), 10);
        DUE.is("chance(1, 99, 1) never", never.chance(1, 99, 1), 0);
        never.swap(0, 1, 0);
        DUE.is("from now on", never.chance(1, 1, 2), 10);
        PartsFerry all = DUE.ferry("man a 1;man b 1;man c 1;man d 1;man e 1;sort s 1 1;sort t 1 1;sort u 1 1;sort v 1 1;sort w 1 1;");
        for (int sort = 0; sort < 5; sort++) {
            for (int man = 1; man < 5; man++) {
                all.swap(0, man, sort);
            }
        }
        DUE.is("all 25", all.chance(1, 1, 25), 10);
    }

    private static int drawn(long seed, int n, int storm, int boatDay) {
        long last = seed;
        int times = 0;
        for (int time = 0; time < 10; time++) {
            for (int day = 0; day < n; day++) {
                last = (last * 1103515245L + 12345) % 2147483648L;
                times += day == boatDay && last / 65536 % 100 < storm ? 1 : 0;
            }
        }
        return times;
    }

    private static void chanceOneBehindAnother() {
        DUE.says("Promise 37", "(numbers from a seed 0 .. 2147483647 on, one behind another; n 1 .. 99 DAYS from now)");
        for (int storm : new int[] {1, 50, 99}) {
            PartsFerry x = DUE.ferry(TWO_ABOARD + "storm " + storm + ";seed 4;");
            for (int seed : new int[] {0, 1, 99999, 100000, MAX - 1, MAX}) {
                for (int n : new int[] {1, 2, 3, 98, 99}) {
                    DUE.is("chance(" + seed + ", " + n + ", 2) of " + storm, x.chance(seed, n, 2), drawn(seed, n, storm, 0));
                }
            }
            DUE.is("all stays", x.count(6) + x.count(9) + x.count(12), 0);
        }
        PartsFerry later = DUE.ferry(TWO_ABOARD.replace("s 0;", "s 2;") + "storm 50;");
        DUE.is("two days go by first", later.chance(7, 3, 2), drawn(7, 3, 50, 2));
        later.go(1);
        DUE.is("one day goes by first", later.chance(7, 3, 2), drawn(7, 3, 50, 1));
    }

    private static void chanceNoSuchOnes() {
        DUE.says("Promise 37", "NONE: no such ones");
        PartsFerry x = DUE.ferry(TWO_ABOARD + "storm 100;");
        for (int seed : new int[] {-1, MIN}) {
            DUE.is("chance(" + seed + ", 1, 0)", x.chance(seed, 1, 0), -1);
        }
        for (int n : new int[] {0, -1, 100, MIN, MAX}) {
            DUE.is("chance(0, " + n + ", 0)", x.chance(0, n, 0), -1);
        }
        for (int mixed : new int[] {-1, 26, MIN, MAX}) {
            DUE.is("chance(0, 1, " + mixed + ")", x.chance(0, 1, mixed), -1);
        }
        DUE.is("chance(0, 1, 0)", x.chance(0, 1, 0), 10);
        DUE.is("chance(MAX, 99, 25)", x.chance(MAX, 99, 25), 0);
    }

    private static void triedMore() {
        DUE.says("Promise 38", "TRIED (n 0 .. 99)");
        PartsFerry x = DUE.ferry("man a 9;deed d 0;want a d 0 0 1;want a d 0 1 1;want a d 0 98 1;want a d 0 99 1;");
        for (int what = 0; what <= 5; what++) {
            DUE.is("tried(" + what + ", 0, 0)", x.tried(what, 0, 0), 0);
            DUE.is("tried(" + what + ", 0, 1)", x.tried(what, 0, 1), 1);
            DUE.is("tried(" + what + ", 0, 98)", x.tried(what, 0, 98), 2);
            DUE.is("tried(" + what + ", 0, 99)", x.tried(what, 0, 99), 3);
            DUE.is("tried(" + what + ", 0, 100)", x.tried(what, 0, 100), -1);
            DUE.is("tried(" + what + ", 0, -1)", x.tried(what, 0, -1), -1);
            DUE.is("tried(" + what + ", 0, MIN)", x.tried(what, 0, MIN), -1);
            DUE.is("tried(" + what + ", 0, MAX)", x.tried(what, 0, MAX), -1);
        }
        x.go(1);
        DUE.says("Terms 3", "TRIED for n DAYS as it goes: how many WANTS more are MET");
        for (int what = 0; what <= 5; what++) {
            DUE.is("tried(" + what + ", 0, 1) on day 1", x.tried(what, 0, 1), 1);
            DUE.is("tried(" + what + ", 0, 99) on day 1", x.tried(what, 0, 99), 3);
        }
        DUE.is("all stays", x.count(6), 1);
        DUE.is("one is met", x.count(7), 1);
    }

    /** Where parts lie goes with who holds them, so that storms change no want: both answers are alike. */
    private static void triedNoStorms() {
        DUE.says("Terms 3", "0 as it goes, 1 no storms");
        String text = "man a 9;man b 9;sort s 1 0;deed d 1;send a s 0;send b s 0;want a d 1 1 5;want b d 1 2 5;want b d 0 3 5;send b s 1;storm ";
        for (int storm : new int[] {0, 49, 50, 100}) {
            PartsFerry x = DUE.ferry(text + storm + ";");
            for (int n = 0; n < 5; n++) {
                int due = n < 2 ? 0 : n < 4 ? 1 : 2;
                DUE.is("tried(0, 0, " + n + ") with storm " + storm, x.tried(0, 0, n), due);
                DUE.is("tried(1, 0, " + n + ") with storm " + storm, x.tried(1, 0, n), due);
            }
            DUE.is("no storm is counted by it", x.count(12), 0);
        }
    }

    private static void triedWithoutOne() {
        DUE.says("Terms 3", "2 PERSON i sends nothing");
        PartsFerry x = DUE.ferry("man a 9;man b 9;man c 9;sort s 9 0;deed d 1;send a s 0;send b s 0;send c s 2;want a d 1 1 5;want b d 1 1 5;"
                + "want b d 1 3 5;want c d 1 5 5;want c d 1 3 5;");
        DUE.is("as it goes: a, then b, then c", x.tried(0, 0, 9), 3);
        DUE.is("without a: b at once, then c", x.tried(2, 0, 9), 4);
        DUE.is("without b: a, then c on day 2", x.tried(2, 1, 9), 3);
        DUE.is("without c: a, then b", x.tried(2, 2, 9), 2);
        x.send(0, 0, 0);
        DUE.is("what is put by call isn't sent either", x.tried(2, 0, 9), 4);
        DUE.is("nobody 3", x.tried(2, 3, 9), -1);
    }

    private static void triedWithRoom() {
        DUE.says("Terms 3", "3 the room is 99");
        String text = "man a 9;man b 9;man c 9;sort s 9 0;sort t 9 0;sort u 9 0;sort v 9 0;sort w 1 0;deed d 15;deed e 7;deed f 16;"
                + "send a s 0;send a t 0;send a u 0;send a v 0;send b s 0;send b t 0;send b u 0;send b v 0;send c s 0;send c t 0;send c u 0;"
                + "send c w 0;want a d 1 1 5;want b d 1 1 5;want c e 1 1 5;want c e 1 1 5;want c f 1 1 5;room 30;";
        PartsFerry x = DUE.ferry(text);
        DUE.is("as it goes", x.tried(0, 0, 2), 1);
        DUE.is("eleven of 9 are 99: w, of 1, stays", x.tried(3, 0, 2), 4);
        x.take(0);
        DUE.is("ten of 9 and w are 91", x.tried(3, 0, 2), 4);
        x.undo();
        DUE.is("the room told stays", x.ahead(1, 2, 0), 4);
    }

    private static void triedFree() {
        DUE.says("Terms 3", "4 all is free (fares 0, whatever the law)");
        String[] laws = {"", "law fare 999;", "law fare 1/0;", "law fare rate;"};
        for (String law : laws) {
            PartsFerry x = DUE.ferry("man a 4;sort s 1 5;sort t 1 5;deed d 3;send a s 0;send a t 0;want a d 1 1 5;" + law);
            DUE.is("as it goes by " + law, x.tried(0, 0, 2), 0);
            DUE.is("free by " + law, x.tried(4, 0, 2), 1);
        }
        PartsFerry poor = DUE.ferry("man a 0;sort s 1 99;deed d 1;send a s 0;want a d 1 1 5;");
        DUE.is("with no pence", poor.tried(4, 0, 2), 1);
        DUE.is("pence stay", poor.man(0, 0), 0);
    }

    private static void triedWithOwnParts() {
        DUE.says("Terms 3", "5 each HOLDS the own PARTS now (PORTS of what each HOLDS stay)");
        PartsFerry x = DUE.ferry("man a 9;man b 9;sort s 1 0;deed d 1;send a s 0;want a d 1 1 5;want b d 0 1 5;");
        x.swap(0, 1, 0);
        x.go(1);
        // a holds b's at port 1, b holds a's at port 0: with own ones a has one at port 1 still
        DUE.is("as it goes", x.tried(0, 0, 1), 2);
        DUE.is("with own ones", x.tried(5, 0, 1), 2);
        DUE.is("mixed still", x.count(11), 2);
        DUE.is("held as before", x.holds(0, 0), 1);
    }

    /** Each of the six changes one thing: where pence, room or a sending matter, the other five answer alike. */
    private static void triedOneThingAlone() {
        DUE.says("Terms 3", "0 as it goes, 1 no storms, 2 PERSON i sends nothing, 3 the room is 99, 4 all is free (fares 0, whatever the law), "
                + "5 each HOLDS the own PARTS now");
        String[] texts = {"man z 0;man a 4;sort s 1 5;deed d 1;send a s 0;want a d 1 1 5;", "man z 0;man a 9;sort s 9 5;deed d 1;send a s 0;want a d 1 1 5;room 8;",
            "man a 9;sort s 1 5;deed d 1;send a s 0;want a d 1 1 5;"};
        int[][] due = {{0, 0, 0, 0, 1, 0}, {0, 0, 0, 1, 0, 0}, {1, 1, 0, 1, 1, 1}};
        for (int i = 0; i < texts.length; i++) {
            for (String storm : new String[] {"", "storm 100;"}) {
                PartsFerry x = DUE.ferry(texts[i] + storm);
                for (int what = 0; what <= 5; what++) {
                    DUE.is("tried(" + what + ", 0, 2) of " + texts[i] + storm, x.tried(what, 0, 2), due[i][what]);
                }
            }
        }
    }

    private static void triedNoSuchOnes() {
        DUE.says("Promise 38", "NONE: no such ones (i 0 of all but 2)");
        PartsFerry x = DUE.ferry("man a 9;man b 9;");
        for (int what : new int[] {-1, 6, 7, MIN, MAX}) {
            DUE.is("tried(" + what + ", 0, 1)", x.tried(what, 0, 1), -1);
        }
        for (int what = 0; what <= 5; what++) {
            DUE.is("tried(" + what + ", 0, 1)", x.tried(what, 0, 1), 0);
            DUE.is("tried(" + what + ", 1, 1)", x.tried(what, 1, 1), what == 2 ? 0 : -1);
            for (int i : new int[] {-1, 2, 5, MIN, MAX}) {
                DUE.is("tried(" + what + ", " + i + ", 1)", x.tried(what, i, 1), -1);
            }
        }
        PartsFerry none = new PartsFerry();
        DUE.is("nobody", none.tried(2, 0, 1), -1);
        DUE.is("i 0 without people", none.tried(5, 0, 1), 0);
    }

    /** What was tried is over with its answer: days, and all that looks ahead, go as told. */
    private static void triedChangesNothing() {
        String text = "man a 20;man b 20;sort s 5 3;deed d 1;send a s 0;send b s 0;want a d 1 1 5;want b d 1 1 5;storm 100;room 5;";
        for (int what = 0; what <= 5; what++) {
            for (int i = 0; i < (what == 2 ? 2 : 1); i++) {
                PartsFerry x = DUE.ferry(text);
                x.tried(what, i, 5);
                DUE.is("gone behind tried(" + what + ")", x.ahead(1, 2, 0), 1);
                x.tried(what, i, 5);
                DUE.is("pence behind tried(" + what + ")", x.ahead(1, 3, 0), 17);
                x.tried(what, i, 5);
                DUE.is("met behind tried(" + what + ")", x.tried(0, 0, 2), 1);
                x.tried(what, i, 5);
                DUE.is("first behind tried(" + what + ")", x.first(1, 0, 1), 3);
                x.tried(what, i, 5);
                DUE.is("order behind tried(" + what + ")", x.order(4), -1);
                x.tried(what, i, 5);
                x.go(1);
                DUE.is("gone by go", x.count(9), 1);
                DUE.is("paid by go", x.count(10), 37);
                DUE.is("a storm by go", x.count(12), 1);
            }
        }
        PartsFerry y = DUE.ferry(text);
        y.see(1, 0, 0, true);
        y.tried(2, 0, 5);
        DUE.is("rooms behind tried(2)", y.rooms(), 1008);
        DUE.is("gone behind rooms", y.ahead(1, 2, 0), 1);
    }

    private static void undoEachKind() {
        DUE.says("Terms 4", "Sendings, what is taken back, given back, lent by call can be undone");
        PartsFerry x = DUE.ferry("man a 9;man b 9;sort s 1 1;send a s 0;");
        x.send(1, 0, 7);
        DUE.is("undo send", x.undo(), 0);
        DUE.is("no such sending", x.sending(1, 0), -1);
        DUE.is("one sending", x.count(3), 1);
        x.take(0);
        DUE.is("undo take", x.undo(), 0);
        DUE.is("to go", x.sending(0, 3), 0);
        x.swap(0, 1, 0);
        DUE.is("undo swap", x.undo(), 0);
        DUE.is("own", x.holds(0, 0), 0);
        DUE.is("own", x.holds(1, 0), 1);
        x.lend(1, 99);
        DUE.is("undo lend", x.undo(), 0);
        DUE.is("pence", x.man(1, 0), 9);
        DUE.is("pence", x.man(0, 0), 9);
        x.go(1);
        DUE.is("it goes as told", x.port(0, 0), 1);
        x.send(1, 0, 7);
        DUE.is("undo send", x.undo(), 0);
        DUE.is("what has gone stays so", x.sending(0, 3), 1);
    }

    private static void undoThatOneAlone() {
        PartsFerry x = DUE.ferry("man a 9;man b 9;man c 9;sort s 1 1;sort t 1 1;send a s 0;send b s 0;");
        x.take(0);
        x.take(1);
        x.send(2, 0, 7);
        DUE.is("undo send", x.undo(), 2);
        DUE.is("the first one is taken back still", x.sending(0, 3), 2);
        DUE.is("the second one is taken back still", x.sending(1, 3), 2);
        DUE.is("undo take", x.undo(), 1);
        DUE.is("the first one is taken back still", x.sending(0, 3), 2);
        DUE.is("the second one is to go", x.sending(1, 3), 0);
        x.swap(0, 1, 0);
        x.swap(2, 1, 1);
        DUE.is("undo swap", x.undo(), 2);
        for (int man = 0; man < 3; man++) {
            DUE.is("s of " + man, x.holds(man, 0), man == 2 ? 2 : 1 - man);
            DUE.is("t of " + man, x.holds(man, 1), man);
        }
    }

    private static void undoTheLatestFirst() {
        DUE.says("Promise 39", "The latest is undone: how many are left");
        PartsFerry x = DUE.ferry("man a 0;man b 0;man c 0;sort s 1 1;");
        x.lend(0, 1);
        x.swap(0, 1, 0);
        x.swap(1, 2, 0);
        x.lend(0, 10);
        x.send(2, 0, 3);
        x.take(0);
        DUE.is("six", x.count(15), 6);
        int[][] due = {{5, 0, 11, 1}, {4, -1, 11, 1}, {3, -1, 1, 1}, {2, -1, 1, 1}, {1, -1, 1, 0}, {0, -1, 0, 0}};
        for (int[] row : due) {
            DUE.is("undo", x.undo(), row[0]);
            DUE.is("left", x.count(15), row[0]);
            DUE.is("the sending with " + row[0] + " left", x.sending(0, 3), row[1]);
            DUE.is("pence with " + row[0] + " left", x.man(0, 0), row[2]);
            DUE.is("held by a with " + row[0] + " left", x.holds(0, 0), row[3]);
        }
        DUE.is("nothing mixed", x.count(11), 0);
    }

    private static void undoTwentyAtMost() {
        DUE.says("Terms 4", "the latest first (20 at most)");
        for (int done = 19; done <= 22; done++) {
            PartsFerry x = DUE.ferry("man a 0;");
            int pence = 0;
            for (int i = 1; i <= done; i++) {
                pence += i;
                DUE.is("lend", x.lend(0, i), pence);
            }
            int most = Math.min(done, 20);
            DUE.is("can be undone of " + done, x.count(15), most);
            for (int left = most - 1; left >= 0; left--) {
                pence -= done - (most - 1 - left);
                DUE.is("undo of " + done, x.undo(), left);
                DUE.is("pence of " + done, x.man(0, 0), pence);
            }
            DUE.is("none left of " + done, x.undo(), -1);
            DUE.is("pence left of " + done, x.man(0, 0), done == 21 ? 1 : done == 22 ? 3 : 0);
        }
        // one undone makes place for another one
        PartsFerry y = DUE.ferry("man a 0;");
        for (int i = 0; i < 20; i++) {
            y.lend(0, 1);
        }
        y.undo();
        y.lend(0, 50);
        DUE.is("twenty again", y.count(15), 20);
        DUE.is("undo", y.undo(), 19);
        DUE.is("pence", y.man(0, 0), 19);
    }

    private static void undoIfNoDayWentBy() {
        DUE.says("Terms 4", "if no DAY went by since");
        PartsFerry x = DUE.ferry("man a 0;");
        x.lend(0, 5);
        x.lend(0, 6);
        DUE.is("go(0)", x.go(0), 0);
        DUE.is("go(-1)", x.go(-1), -1);
        DUE.is("go(100)", x.go(100), -1);
        x.ahead(9, 0, 0);
        x.chance(0, 9, 0);
        x.tried(0, 0, 9);
        DUE.is("no day went by", x.count(15), 2);
        DUE.is("undo", x.undo(), 1);
        DUE.is("go(1)", x.go(1), 1);
        DUE.is("a day went by", x.count(15), 0);
        DUE.is("undo", x.undo(), -1);
        DUE.is("pence", x.man(0, 0), 5);
        x.lend(0, 7);
        DUE.is("what was done since", x.undo(), 0);
        DUE.is("pence", x.man(0, 0), 5);
    }

    private static void undoOfWhatWasRefused() {
        PartsFerry x = DUE.ferry("man a 0;man b 0;sort s 1 1;send a s 0;");
        x.send(5, 0, 0);
        x.take(1);
        x.swap(0, 0, 0);
        x.lend(0, 0);
        x.see(1, 0, 0, true);
        x.out(0);
        x.known(1);
        x.keep();
        DUE.is("nothing to undo", x.count(15), 0);
        DUE.is("undo", x.undo(), -1);
        DUE.is("what was seen isn't undone", x.count(13), 2);
    }

    private static void undoNone() {
        DUE.says("Promise 39", "NONE: none");
        PartsFerry x = DUE.ferry("man a 0;");
        DUE.is("undo", x.undo(), -1);
        x.lend(0, 1);
        DUE.is("undo", x.undo(), 0);
        DUE.is("undo", x.undo(), -1);
        DUE.is("pence", x.man(0, 0), 0);
    }

    private static void keepInPlace() {
        DUE.says("Promise 40", "An IMAGE is kept (in place of one ahead): which DAY it is");
        PartsFerry x = DUE.ferry("man a 0;");
        DUE.is("keep", x.keep(), 0);
        x.lend(0, 1);
        x.go(3);
        DUE.is("keep in its place", x.keep(), 3);
        x.lend(0, 1);
        x.go(4);
        DUE.is("back", x.back(), 3);
        DUE.is("pence", x.man(0, 0), 1);
        x.go(99);
        DUE.is("back again", x.back(), 3);
        DUE.is("keep anew", x.keep(), 3);
    }

    private static void keepChangesNothing() {
        PartsFerry x = DUE.ferry("man a 0;");
        x.lend(0, 1);
        x.lend(0, 2);
        x.keep();
        DUE.is("two to undo still", x.count(15), 2);
        DUE.is("undo", x.undo(), 1);
        DUE.is("undo", x.undo(), 0);
        DUE.is("back", x.back(), 0);
        DUE.is("pence as kept", x.man(0, 0), 3);
    }

    private static void backKeepsAll() {
        DUE.says("Promise 41", "All (but what was SEEN) is as in the IMAGE");
        PartsFerry x = DUE.ferry("man a 50;man b 50;sort s 1 1;deed d 1;send a s 0;send b s 0;send a s 1;send b s 8;want a d 1 1 5;want b d 0 1 5;"
                + "want a d 0 9 5;storm 50;seed 3;");
        x.take(2);
        x.go(2);
        x.lend(0, 3);
        x.swap(0, 1, 0);
        x.send(1, 0, 77);
        x.keep();
        int[] kept = state(x);
        x.undo();
        x.undo();
        x.undo();
        x.take(3);
        x.go(20);
        x.send(0, 0, 22);
        int[] later = state(x);
        x.back();
        int[] again = state(x);
        int changed = 0;
        for (int i = 0; i < kept.length; i++) {
            DUE.is("answer " + i, again[i], kept[i]);
            changed += later[i] != kept[i] ? 1 : 0;
        }
        DUE.is("much had changed", changed > 8, true);
        x.go(30);
        int storms = x.count(12);
        x.back();
        x.go(30);
        DUE.is("the same numbers", x.count(12), storms);
    }

    private static int[] state(PartsFerry x) {
        int[] state = new int[40];
        int at = 0;
        for (int what = 0; what <= 12; what++) {
            state[at++] = x.count(what);
        }
        for (int man = 0; man < 2; man++) {
            for (int what = 0; what < 5; what++) {
                state[at++] = x.man(man, what);
            }
            state[at++] = x.holds(man, 0);
            state[at++] = x.port(man, 0);
        }
        for (int sending = 0; sending < 6; sending++) {
            state[at++] = x.sending(sending, 3);
        }
        state[at++] = x.sending(4, 2);
        for (int want = 0; want < 3; want++) {
            state[at++] = x.want(want, 5);
        }
        return state;
    }

    private static void backNothingToUndo() {
        DUE.says("Promise 41", "(nothing to undo then)");
        PartsFerry x = DUE.ferry("man a 0;");
        x.lend(0, 1);
        x.keep();
        x.lend(0, 2);
        DUE.is("two to undo", x.count(15), 2);
        DUE.is("back", x.back(), 0);
        DUE.is("nothing to undo", x.count(15), 0);
        DUE.is("undo", x.undo(), -1);
        DUE.is("pence", x.man(0, 0), 1);
        x.lend(0, 4);
        DUE.is("what was done since", x.undo(), 0);
    }

    private static void backButWhatWasSeen() {
        DUE.says("Terms 4", "An IMAGE keeps all but what was SEEN");
        PartsFerry x = DUE.ferry(SEEN);
        x.see(1, 0, 0, true);
        x.keep();
        x.see(1, 1, 1, true);
        x.out(0);
        x.back();
        DUE.is("three were seen", x.count(13), 3);
        DUE.is("all are known", x.rooms(), FROM_8);
        x.known(1);
        x.back();
        DUE.is("known by one", x.rooms(), FROM_3);
        DUE.is("by one", x.count(14), 1);
    }

    private static void backThereIsNone() {
        DUE.says("Promise 41", "NONE: there is none");
        PartsFerry x = DUE.ferry("man a 5;");
        x.lend(0, 1);
        x.go(2);
        x.lend(0, 2);
        DUE.is("back", x.back(), -1);
        DUE.is("the day stays", x.count(6), 2);
        DUE.is("pence stay", x.man(0, 0), 8);
        DUE.is("what can be undone stays", x.count(15), 1);
        x.keep();
        DUE.is("back", x.back(), 2);
    }

    private static void countsOfWhatIsTold() {
        DUE.says("Promise 42", "0 PEOPLE, 1 SORTS, 2 DEEDS, 3 SENDINGS now, 4 WANTS, 5 KNOTS");
        int[] none = {0, 0, 0, 0, 0, 0};
        String most = "man a 0;man b 0;man c 0;man d 0;man e 0;sort a 1 0;sort b 1 0;sort c 1 0;sort d 1 0;sort e 1 0;deed a 1;deed b 1;deed c 1;"
                + "deed d 1;deed e 1;" + "send a a 9;".repeat(12) + "want a a 1 1 1;".repeat(8) + "law mix not 1" + "+1".repeat(31) + ";";
        int[] all = {5, 5, 5, 12, 8, 64};
        String some = "man a 0;sort a 1 0;sort b 1 0;deed a 1;deed b 1;deed c 1;send a a 9;send a a 9;send a a 9;send a a 9;law fare 1+(2);law mix day;";
        int[] few = {1, 2, 3, 4, 0, 4};
        for (int what = 0; what < 6; what++) {
            DUE.is("count(" + what + ") of none", DUE.ferry("").count(what), none[what]);
            DUE.is("count(" + what + ") of most", DUE.ferry(most).count(what), all[what]);
            DUE.is("count(" + what + ") of some", DUE.ferry(some).count(what), few[what]);
        }
        PartsFerry x = DUE.ferry(some);
        x.send(0, 1, 5);
        DUE.is("one more by call", x.count(3), 5);
        x.take(0);
        DUE.is("one taken back is one still", x.count(3), 5);
        x.undo();
        x.undo();
        DUE.is("undone", x.count(3), 4);
    }

    private static void countsOfWhatGoesBy() {
        DUE.says("Promise 42", "6 the DAY, 7 MET, 8 MISSED, 9 GONE so far, 10 PENCE of all, 11 MIXED, 12 STORMS so far");
        PartsFerry x = DUE.ferry("man a 10;man b 20;man c 30;sort s 1 2;deed d 1;send a s 0;send b s 0;send c s 2;want a d 1 1 5;want b d 0 1 5;"
                + "want c d 0 2 7;storm 100;");
        int[][] due = {{0, 0, 0, 0, 60, 0, 0}, {1, 0, 0, 2, 56, 2, 1}, {2, 1, 1, 2, 61, 2, 2}, {3, 2, 1, 3, 66, 2, 3}};
        for (int day = 0; day < 4; day++) {
            for (int i = 0; i < 7; i++) {
                DUE.is("count(" + (6 + i) + ") on day " + day, x.count(6 + i), due[day][i]);
            }
            x.go(1);
        }
    }

    private static void countsOfCalls() {
        DUE.says("Promise 42", "13 SEEN, 14 by how many it is KNOWN, 15 what can be undone");
        PartsFerry x = DUE.ferry(SEEN);
        int[][] due = {{0, 0, 0}, {1, 1, 0}, {2, 2, 0}, {2, 0, 0}, {2, 2, 0}, {2, 2, 1}, {2, 2, 0}};
        for (int step = 0; step < due.length; step++) {
            if (step == 1) {
                x.see(1, 0, 0, true);
            } else if (step == 2) {
                x.out(0);
            } else if (step == 3) {
                x.known(0);
            } else if (step == 4) {
                x.known(-1);
            } else if (step == 5) {
                x.lend(0, 1);
            } else if (step == 6) {
                x.undo();
            }
            for (int i = 0; i < 3; i++) {
                DUE.is("count(" + (13 + i) + ") at step " + step, x.count(13 + i), due[step][i]);
            }
        }
    }

    private static void theLastCall() {
        DUE.says("What it is", "An object is used for at most 512 calls after it has been made");
        PartsFerry x = new PartsFerry();
        // seven to tell a text of 106 bytes, then 504 more
        DUE.is("text", Due.tell(x, "man a 9;man b 9;sort s 3 1;deed d 1;send a s 0;send b s 2;want a d 1 1 5;want b d 0 9 5;storm 100;room 5;"), 10);
        for (int call = 8; call < 512; call++) {
            int day = x.go(call < 400 ? 1 : 0);
            DUE.is("call " + call, day, Math.min(call, 399) - 7);
        }
        DUE.is("call 512", x.count(10), 9 + 9 - 2 + 5);
    }

    private static void countOfAnotherWhat() {
        DUE.says("Promise 42", "NONE for another what");
        PartsFerry x = DUE.ferry(SEEN);
        for (int what : new int[] {-1, 16, 17, MIN, MAX}) {
            DUE.is("count(" + what + ")", x.count(what), -1);
        }
        DUE.is("count(0)", x.count(0), 2);
        DUE.is("count(15)", x.count(15), 0);
    }
}
