/** The boundary cases that part 2 of the terms names, sentence by sentence: what a day does, and what laws say. */
final class EdgesOfDaysTest {
    private static final Due DUE = new Due("EdgesOfDaysTest");
    private static final long ERROR = Long.MIN_VALUE;
    private static final long TEN_TO_12 = 1000000000000L;
    private static final String MUCH = "1000*1000*1000*1000";

    public static void main(String[] args) {
        ownPartsAtFirst();
        allPartsLieThere();
        eachWantOfThisDay();
        wantsByNumbers();
        gainsWithin();
        gainsWithout();
        theBoatsPort();
        dueFromThisDay();
        hasntGone();
        notAboardTwice();
        whatIsLeftOfTheRoom();
        sendingsByNumbers();
        penceAtLeast();
        faresWithin();
        faresWithout();
        paidAndGone();
        belowStorm();
        noNumber();
        numbersGoOn();
        mixIsntZero();
        mixOfEachSort();
        theFirstTwo();
        mixOfFiveByFive();
        atTheOtherPort();
        theNextDay();
        namesOfFare();
        namesOfGain();
        namesOfMix();
        namesOneBehindAnother();
        namesAboard();
        valuesAreOneOrZero();
        valuesAreLongs();
        bothSides();
        cutTowardsZero();
        errors();
        errorsOnTheWay();
        fiftyAtLeast();
        DUE.end();
    }

    private static void ownPartsAtFirst() {
        DUE.says("Terms 2", "Of each SORT each one HOLDS one PART (at first the own one), which lies at a PORT");
        PartsFerry x = DUE.ferry("man a 9;man b 9;man c 9;sort s 1 0;sort t 1 0;send a s 0;send b s 0;send c t 0;storm 100;");
        for (int day = 0; day < 4; day++) {
            for (int sort = 0; sort < 2; sort++) {
                int held = 0;
                for (int man = 0; man < 3; man++) {
                    held |= 1 << x.holds(man, sort);
                    DUE.is("a port", x.port(man, sort) == 0 || x.port(man, sort) == 1, true);
                }
                DUE.is("each part is held by one on day " + day, held, 7);
            }
            DUE.is("own ones on day " + day, x.count(11), day == 0 ? 0 : 2);
            x.go(1);
        }
    }

    private static void allPartsLieThere() {
        DUE.says("Terms 2", "One CAN do a DEED at a PORT, if all PARTS that this one HOLDS of its SORTS lie there");
        PartsFerry x = DUE.ferry("man a 9;man b 9;sort s 1 0;sort t 1 0;sort u 1 0;deed none 0;deed one 1;deed two 3;deed all 7;deed far 24;"
                + "send a s 0;send a t 2;send a u 4;");
        int[][] atZero = {{1, 1, 1, 1, 1}, {1, 0, 0, 0, 1}, {1, 0, 0, 0, 1}, {1, 0, 0, 0, 1}};
        int[][] atOne = {{1, 0, 0, 0, 1}, {1, 1, 0, 0, 1}, {1, 1, 1, 0, 1}, {1, 1, 1, 1, 1}};
        for (int times = 0; times < 4; times++) {
            for (int deed = 0; deed < 5; deed++) {
                DUE.is("can(0, " + deed + ", 0), " + times + " away", x.can(0, deed, 0), atZero[times][deed]);
                DUE.is("can(0, " + deed + ", 1), " + times + " away", x.can(0, deed, 1), atOne[times][deed]);
                DUE.is("can(1, " + deed + ", 0)", x.can(1, deed, 0), 1);
            }
            x.go(times == 0 ? 1 : 2);
        }
        // what one holds counts, not what is one's own
        PartsFerry y = DUE.ferry("man a 9;man b 9;sort s 1 0;deed d 1;send a s 0;");
        y.swap(0, 1, 0);
        y.go(1);
        DUE.is("a holds b's at port 1", y.can(0, 0, 1), 1);
        DUE.is("b holds a's at port 0", y.can(1, 0, 1), 0);
    }

    private static void eachWantOfThisDay() {
        DUE.says("Terms 2", "each WANT of this DAY is MET, if that one CAN");
        PartsFerry x = DUE.ferry("man a 9;sort s 1 0;deed d 1;want a d 0 0 1;want a d 1 0 1;want a d 0 1 1;want a d 1 1 1;want a d 0 2 1;");
        int[][] due = {{0, 0, 0, 0, 0}, {1, 2, 0, 0, 0}, {1, 2, 1, 2, 0}, {1, 2, 1, 2, 1}, {1, 2, 1, 2, 1}};
        for (int day = 0; day < 5; day++) {
            for (int want = 0; want < 5; want++) {
                DUE.is("want(" + want + ", 5) on day " + day, x.want(want, 5), due[day][want]);
            }
            x.go(1);
        }
        // wants come ahead of the boat of their day, and behind the one of the day ahead
        PartsFerry y = DUE.ferry("man a 9;sort s 1 0;deed d 1;send a s 0;want a d 0 0 1;want a d 1 0 1;want a d 0 1 1;want a d 1 1 1;");
        y.go(2);
        int[] states = {1, 2, 2, 1};
        for (int want = 0; want < 4; want++) {
            DUE.is("want(" + want + ", 5) with a boat", y.want(want, 5), states[want]);
        }
        DUE.is("99 is the last day of wants", DUE.ferry("man a 9;deed d 0;want a d 0 99 5;").go(99), 99);
        PartsFerry z = DUE.ferry("man a 9;deed d 0;want a d 0 99 5;");
        z.go(99);
        DUE.is("not yet", z.want(0, 5), 0);
        z.go(1);
        DUE.is("met", z.want(0, 5), 1);
        DUE.is("its worth", z.man(0, 0), 14);
    }

    private static void wantsByNumbers() {
        DUE.says("Terms 2", "by numbers each WANT");
        PartsFerry x = DUE.ferry("man a 1;deed d 0;want a d 0 0 5;want a d 0 0 3;law gain pence*worth;");
        x.go(1);
        DUE.is("1, 6, then 24", x.man(0, 0), 24);
        PartsFerry y = DUE.ferry("man a 1;deed d 0;want a d 0 0 3;want a d 0 0 5;law gain pence*10+worth;");
        y.go(1);
        DUE.is("1, 14, then 159", y.man(0, 0), 159);
        PartsFerry z = DUE.ferry("man a 1;sort s 1 0;deed d 1;want a d 1 0 50;law gain 999;");
        z.go(1);
        DUE.is("a want that is missed gains nothing", z.man(0, 0), 1);
    }

    private static int gained(String law, int worth) {
        PartsFerry x = DUE.ferry("man a 5;deed d 0;want a d 0 0 " + worth + ";" + law);
        x.go(1);
        return x.man(0, 0) - 5;
    }

    private static void gainsWithin() {
        DUE.says("Terms 2", "PENCE are more by E of gain (0 .. 999; WORTH without, with an ERROR)");
        DUE.is("-1", gained("law gain 0-1;", 7), 0);
        DUE.is("-10 to the 12", gained("law gain 0-" + MUCH + ";", 7), 0);
        DUE.is("0", gained("law gain 0;", 7), 0);
        DUE.is("1", gained("law gain 1;", 7), 1);
        DUE.is("998", gained("law gain 998;", 7), 998);
        DUE.is("999", gained("law gain 999;", 7), 999);
        DUE.is("1000", gained("law gain 1000;", 7), 999);
        DUE.is("2 to the 32 and 1", gained("law gain 4096*4096*256+1;", 7), 999);
        DUE.is("10 to the 12", gained("law gain " + MUCH + ";", 7), 999);
    }

    private static void gainsWithout() {
        DUE.says("Terms 2", "WORTH without, with an ERROR");
        DUE.is("without", gained("", 7), 7);
        DUE.is("without, of 0", gained("", 0), 0);
        DUE.is("without, of 99", gained("", 99), 99);
        DUE.is("by 0", gained("law gain 1/0;", 7), 7);
        DUE.is("beyond", gained("law gain " + MUCH + "+1;", 7), 7);
        DUE.is("below", gained("law gain 0-" + MUCH + "-1;", 7), 7);
        DUE.is("other laws don't matter", gained("law fare 50;law mix 60;", 7), 7);
    }

    private static void theBoatsPort() {
        DUE.says("Terms 2", "the BOAT lies at port 0 on even DAYS, at port 1 on odd ones");
        for (int from = 0; from < 6; from++) {
            PartsFerry x = DUE.ferry("man a 9;sort s 1 0;send a s " + from + ";");
            int goes = from % 2 == 0 ? from : from + 1;
            for (int day = 0; day < 9; day++) {
                DUE.is("from " + from + " on, day " + day, x.port(0, 0), day > goes ? 1 : 0);
                x.go(1);
            }
        }
        for (int from = 1; from < 6; from++) {
            PartsFerry x = DUE.ferry("man a 9;sort s 1 0;send a s 0;send a s " + from + ";");
            int goes = from % 2 == 1 ? from : from + 1;
            for (int day = 1; day < 9; day++) {
                x.go(1);
                DUE.is("back from " + from + " on, day " + day, x.port(0, 0), day > goes ? 0 : 1);
            }
        }
    }

    private static void dueFromThisDay() {
        DUE.says("Terms 2", "each SENDING that is DUE (from this DAY or an earlier one on)");
        PartsFerry x = DUE.ferry("man a 9;man b 9;man c 9;sort s 1 0;send a s 1;send b s 2;send c s 3;");
        x.go(2);
        DUE.is("those of day 1 wait", x.count(9), 0);
        x.go(1);
        DUE.is("an earlier one", x.sending(0, 3), 1);
        DUE.is("this day's", x.sending(1, 3), 1);
        DUE.is("a later one", x.sending(2, 3), 0);
    }

    private static void hasntGone() {
        DUE.says("Terms 2", "and hasn't GONE");
        PartsFerry x = DUE.ferry("man a 9;sort s 1 1;send a s 0;");
        x.go(9);
        DUE.is("it went once", x.port(0, 0), 1);
        DUE.is("and was paid once", x.man(0, 0), 8);
        PartsFerry y = DUE.ferry("man a 9;sort s 1 1;send a s 0;");
        y.take(0);
        y.go(9);
        DUE.is("taken back, it doesn't go", y.port(0, 0), 0);
    }

    private static void notAboardTwice() {
        DUE.says("Terms 2", "if the PART lies at the BOAT's port and isn't ABOARD");
        PartsFerry x = DUE.ferry("man a 9;man b 9;sort s 1 1;sort t 1 1;send a s 0;send a s 0;send b s 0;send a t 0;");
        x.go(1);
        DUE.is("the first one of s of a", x.sending(0, 3), 1);
        DUE.is("not the second one", x.sending(1, 3), 0);
        DUE.is("b's", x.sending(2, 3), 1);
        DUE.is("the other sort", x.sending(3, 3), 1);
        DUE.is("a paid s and t", x.man(0, 0), 7);
        x.go(1);
        DUE.is("the second one goes back", x.sending(1, 3), 1);
        DUE.is("back", x.port(0, 0), 0);
    }

    private static int goneOf(String sendings, int room) {
        PartsFerry x = DUE.ferry("man a 99;man b 99;man c 99;sort s 3 0;sort t 2 0;sort u 1 0;" + sendings + "room " + room + ";");
        x.go(1);
        int bits = 0;
        for (int sending = 0; sending < x.count(3); sending++) {
            bits |= x.sending(sending, 3) << sending;
        }
        return bits;
    }

    private static void whatIsLeftOfTheRoom() {
        DUE.says("Terms 2", "its SIZE is no more than what is left of the room");
        DUE.is("3 of 2", goneOf("send a s 0;", 2), 0);
        DUE.is("3 of 3", goneOf("send a s 0;", 3), 1);
        DUE.is("3 and 2 of 4", goneOf("send a s 0;send a t 0;", 4), 1);
        DUE.is("3 and 2 of 5", goneOf("send a s 0;send a t 0;", 5), 3);
        DUE.is("3, 3 and 1 of 4: the second one stays", goneOf("send a s 0;send b s 0;send a u 0;", 4), 5);
        DUE.is("3, 3 and 1 of 6: the third one stays", goneOf("send a s 0;send b s 0;send a u 0;", 6), 3);
        DUE.is("by numbers, not by the best", goneOf("send a u 0;send a s 0;send b s 0;", 6), 3);
        DUE.is("what isn't due takes no room", goneOf("send a s 1;send b s 0;", 3), 2);
        PartsFerry x = DUE.ferry("man a 99;man b 99;sort s 3 0;send a s 0;send b s 0;room 3;");
        x.go(3);
        DUE.is("each day all the room again", x.count(9), 2);
        PartsFerry y = DUE.ferry("man a 0;man b 99;sort s 3 5;send a s 0;send b s 0;room 3;");
        y.go(1);
        DUE.is("who can't pay takes no room", y.sending(1, 3), 1);
    }

    private static void sendingsByNumbers() {
        DUE.says("Terms 2", "by numbers each SENDING");
        // not by people, sorts, or the days from which on they are due
        PartsFerry x = DUE.ferry("man a 9;man b 9;sort s 1 1;sort t 1 1;send b t 2;send a s 0;send b s 1;room 1;");
        x.take(1);
        x.send(0, 0, 2);
        int[][] due = {{0, 0, 0}, {0, 0, 0}, {0, 0, 0}, {1, 0, 0}, {1, 0, 0}, {1, 1, 0}, {1, 1, 0}, {1, 1, 1}};
        for (int day = 0; day < due.length; day++) {
            DUE.is("the first one on day " + day, x.sending(0, 3), due[day][0]);
            DUE.is("the third one on day " + day, x.sending(2, 3), due[day][1]);
            DUE.is("the one put by call on day " + day, x.sending(3, 3), due[day][2]);
            x.go(1);
        }
        // each one pays for those that are aboard ahead of it
        PartsFerry y = DUE.ferry("man a 99;man b 99;man c 99;sort s 1 1;send c s 0;send a s 0;send b s 0;law fare aboard*10+1;");
        y.go(1);
        DUE.is("c is the first one", y.man(2, 0), 98);
        DUE.is("a is the second one", y.man(0, 0), 88);
        DUE.is("b is the third one", y.man(1, 0), 78);
    }

    private static void penceAtLeast() {
        DUE.says("Terms 2", "PENCE are E of fare at least");
        int[][] due = {{0, 0, 1, 0}, {4, 5, 0, 4}, {5, 5, 1, 0}, {6, 5, 1, 1}, {98, 99, 0, 98}, {99, 99, 1, 0}};
        for (int[] row : due) {
            PartsFerry x = DUE.ferry("man a " + row[0] + ";sort s 1 " + row[1] + ";send a s 0;");
            x.go(1);
            DUE.is("gone for " + row[1] + " of " + row[0], x.count(9), row[2]);
            DUE.is("pence for " + row[1] + " of " + row[0], x.man(0, 0), row[3]);
        }
        PartsFerry y = DUE.ferry("man a 2;man b 9;sort s 1 3;sort t 1 2;sort u 1 1;send a s 0;send a t 0;send a u 0;");
        y.go(1);
        DUE.is("t alone can be paid, then nothing", y.man(0, 1), 2);
        DUE.is("pence are another one's", y.man(1, 0), 9);
        // what was gained on a day is there when its boat is paid
        PartsFerry z = DUE.ferry("man a 0;sort s 1 5;deed d 0;want a d 0 0 5;send a s 0;");
        z.go(1);
        DUE.is("gained and paid", z.count(9), 1);
    }

    private static int paid(String law, int rate) {
        PartsFerry x = DUE.ferry("man a 999;sort s 1 " + rate + ";send a s 0;" + law);
        x.go(1);
        return x.count(9) == 1 ? 999 - x.man(0, 0) : -1;
    }

    private static void faresWithin() {
        DUE.says("Terms 2", "PENCE are E of fare at least (0 .. 999; RATE without, with an ERROR)");
        DUE.is("-1", paid("law fare 0-1;", 7), 0);
        DUE.is("-10 to the 12", paid("law fare 0-" + MUCH + ";", 7), 0);
        DUE.is("0", paid("law fare 0;", 7), 0);
        DUE.is("1", paid("law fare 1;", 7), 1);
        DUE.is("998", paid("law fare 998;", 7), 998);
        DUE.is("999", paid("law fare 999;", 7), 999);
        DUE.is("1000", paid("law fare 1000;", 7), 999);
        DUE.is("2 to the 32 and 1", paid("law fare 4096*4096*256+1;", 7), 999);
        DUE.is("10 to the 12", paid("law fare " + MUCH + ";", 7), 999);
        PartsFerry x = DUE.ferry("man a 998;sort s 1 0;send a s 0;law fare 1000;");
        x.go(1);
        DUE.is("998 are less than 999", x.count(9), 0);
        DUE.is("all of them are left", x.man(0, 0), 998);
    }

    private static void faresWithout() {
        DUE.says("Terms 2", "RATE without, with an ERROR");
        DUE.is("without", paid("", 7), 7);
        DUE.is("without, of 0", paid("", 0), 0);
        DUE.is("without, of 99", paid("", 99), 99);
        DUE.is("by 0", paid("law fare 1/0;", 7), 7);
        DUE.is("beyond", paid("law fare " + MUCH + "+1;", 7), 7);
        DUE.is("below", paid("law fare 0-" + MUCH + "-1;", 7), 7);
        DUE.is("other laws don't matter", paid("law gain 50;law mix 60;", 7), 7);
    }

    private static void paidAndGone() {
        DUE.says("Terms 2", "it is paid and ABOARD: the SENDING has GONE");
        PartsFerry x = DUE.ferry("man a 9;sort s 1 4;send a s 0;");
        x.go(1);
        DUE.is("paid", x.man(0, 0), 5);
        DUE.is("gone", x.sending(0, 3), 1);
        DUE.is("gone so far", x.count(9), 1);
        DUE.is("not to be taken back", x.take(0), false);
    }

    /** The first number of each seed is known here, so storms are tried right at it and beside it. */
    private static void belowStorm() {
        DUE.says("Terms 2", "a number modulo 100 (no number, if storm is 0 or 100): below storm it STORMS");
        for (int seed = 0; seed < 60; seed++) {
            int number = (int) ((seed * 1103515245L + 12345) % 2147483648L / 65536 % 100);
            for (int storm = number; storm <= number + 1; storm++) {
                PartsFerry x = DUE.ferry("seed " + seed + ";storm " + storm + ";");
                x.go(1);
                DUE.is("number " + number + ", storm " + storm, x.count(12), number < storm ? 1 : 0);
            }
        }
        PartsFerry greatest = DUE.ferry("seed 99999;storm 37;");
        long last = 99999;
        for (int day = 0, storms = 0; day < 99; day++) {
            last = (last * 1103515245L + 12345) % 2147483648L;
            storms += last / 65536 % 100 < 37 ? 1 : 0;
            greatest.go(1);
            DUE.is("storms of the greatest seed, day " + day, greatest.count(12), storms);
        }
    }

    private static void noNumber() {
        PartsFerry never = DUE.ferry("storm 0;seed 5;");
        PartsFerry always = DUE.ferry("storm 100;seed 5;");
        for (int day = 1; day <= 40; day++) {
            never.go(1);
            always.go(1);
            DUE.is("storm 0", never.count(12), 0);
            DUE.is("storm 100", always.count(12), day);
        }
        int rare = 0;
        int nearly = 0;
        PartsFerry one = DUE.ferry("storm 1;seed 5;");
        PartsFerry other = DUE.ferry("storm 99;seed 5;");
        one.go(99);
        other.go(99);
        long last = 5;
        for (int day = 0; day < 99; day++) {
            last = (last * 1103515245L + 12345) % 2147483648L;
            rare += last / 65536 % 100 < 1 ? 1 : 0;
            nearly += last / 65536 % 100 < 99 ? 1 : 0;
        }
        DUE.is("storm 1", one.count(12), rare);
        DUE.is("storm 99", other.count(12), nearly);
    }

    private static void numbersGoOn() {
        DUE.says("Terms 2", "Numbers are the last one (at first the seed) times 1103515245 and 12345, without what is above 31 bits, by 65536");
        PartsFerry x = DUE.ferry("storm 50;seed 77;");
        PartsFerry y = DUE.ferry("storm 50;seed 77;");
        x.go(30);
        for (int day = 0; day < 30; day++) {
            y.go(0);
            y.go(1);
            y.ahead(9, 4, 0);
            y.tried(0, 0, 9);
            y.rooms();
            y.order(4);
            y.go(100);
        }
        y.chance(3, 9, 0);
        x.go(30);
        y.go(30);
        DUE.is("the same storms, by one call or many", y.count(12), x.count(12));
    }

    private static int mixedBy(String law) {
        PartsFerry x = DUE.ferry("man a 9;man b 9;sort s 1 0;send a s 0;send b s 0;storm 100;" + law);
        x.go(1);
        return x.count(11);
    }

    private static void mixIsntZero() {
        DUE.says("Terms 2", "of which E of mix isn't 0 (1 without, with an ERROR)");
        DUE.is("0", mixedBy("law mix 0;"), 0);
        DUE.is("1", mixedBy("law mix 1;"), 2);
        DUE.is("-1", mixedBy("law mix 0-1;"), 2);
        DUE.is("9999", mixedBy("law mix 9999;"), 2);
        DUE.is("2 to the 32", mixedBy("law mix 4096*4096*256;"), 2);
        DUE.is("without", mixedBy(""), 2);
        DUE.is("other laws don't matter", mixedBy("law fare 0;law gain 0;"), 2);
        DUE.is("by 0", mixedBy("law mix 0/0;"), 2);
        DUE.is("beyond", mixedBy("law mix 0*(" + MUCH + "+1);"), 2);
        DUE.is("below", mixedBy("law mix 0*(0-" + MUCH + "-1);"), 2);
    }

    private static void mixOfEachSort() {
        DUE.says("Terms 2", "of each SORT, by numbers");
        String all = "man a 9;man b 9;sort s 1 0;sort t 2 0;sort u 3 0;send a s 0;send b s 0;send a t 0;send b t 0;send a u 0;send b u 0;"
                + "storm 100;room 12;";
        String[] laws = {"", "law mix size=1;", "law mix size>1;", "law mix size<>2;", "law mix size=9;"};
        int[] own = {0, 6, 1, 2, 7};
        for (int i = 0; i < laws.length; i++) {
            PartsFerry x = DUE.ferry(all + laws[i]);
            x.go(1);
            DUE.is("sorts that stay own by " + laws[i], x.man(0, 2), own[i]);
        }
        PartsFerry calm = DUE.ferry(all.replace("storm 100", "storm 0"));
        calm.go(1);
        DUE.is("no storm, nothing is mixed", calm.count(11), 0);
    }

    private static void theFirstTwo() {
        DUE.says("Terms 2", "the first two PEOPLE by numbers whose PARTS of it are ABOARD HOLD them the other way round");
        String men = "man a 9;man b 9;man c 9;man d 9;sort s 1 0;sort t 1 0;storm 100;";
        String[] sent = {"", "a", "d", "ab", "dc", "dba", "dcba", "ca"};
        int[][] due = {{0, 1, 2, 3}, {0, 1, 2, 3}, {0, 1, 2, 3}, {1, 0, 2, 3}, {0, 1, 3, 2}, {1, 0, 2, 3}, {1, 0, 2, 3}, {2, 1, 0, 3}};
        for (int i = 0; i < sent.length; i++) {
            StringBuilder text = new StringBuilder(men);
            for (char man : sent[i].toCharArray()) {
                text.append("send ").append(man).append(" s 0;");
            }
            PartsFerry x = DUE.ferry(text.append("send b t 0;").toString());
            x.go(1);
            for (int man = 0; man < 4; man++) {
                DUE.is("what " + man + " holds, sent by " + sent[i], x.holds(man, 0), due[i][man]);
                DUE.is("one alone isn't mixed", x.holds(man, 1), man);
            }
        }
        // it isn't the own part that counts, but who holds one
        PartsFerry y = DUE.ferry(men + "send b s 0;send c s 0;");
        y.swap(0, 1, 0);
        y.go(1);
        DUE.is("b held a's, now c's", y.holds(1, 0), 2);
        DUE.is("c holds a's", y.holds(2, 0), 0);
        DUE.is("a holds b's still", y.holds(0, 0), 1);
    }

    private static void mixOfFiveByFive() {
        DUE.says("Terms 2", "of each SORT, by numbers");
        String five = "man a 9;man b 9;man c 9;man d 9;man e 9;sort s 1 0;sort t 1 0;sort u 1 0;sort v 1 0;sort w 1 0;storm 100;";
        for (String law : new String[] {"", "law mix 1;"}) {
            PartsFerry x = DUE.ferry(five + "send e s 0;send c s 0;send e w 0;send d w 0;send a t 0;send e u 0;" + law);
            x.go(1);
            int[][] due = {{0, 1, 4, 3, 2}, {0, 1, 2, 3, 4}, {0, 1, 2, 3, 4}, {0, 1, 2, 3, 4}, {0, 1, 2, 4, 3}};
            for (int sort = 0; sort < 5; sort++) {
                for (int man = 0; man < 5; man++) {
                    DUE.is("what " + man + " holds of " + sort + " by " + law, x.holds(man, sort), due[sort][man]);
                }
            }
            DUE.is("mixed", x.count(11), 4);
        }
    }

    private static void atTheOtherPort() {
        DUE.says("Terms 2", "(4) what is ABOARD lies at the other port");
        PartsFerry x = DUE.ferry("man a 9;man b 9;sort s 1 0;sort t 1 0;send a s 0;send b t 0;send a s 1;send a t 1;");
        int[][] due = {{0, 0}, {1, 2}, {0, 2}, {2, 2}};
        for (int day = 0; day < 4; day++) {
            DUE.is("of a at port 1 on day " + day, x.man(0, 1), due[day][0]);
            DUE.is("of b at port 1 on day " + day, x.man(1, 1), due[day][1]);
            x.go(1);
        }
    }

    private static void theNextDay() {
        DUE.says("Terms 2", "Then it is the next DAY");
        PartsFerry x = new PartsFerry();
        for (int day = 0; day < 30; day++) {
            DUE.is("the day", x.count(6), day);
            DUE.is("go(1)", x.go(1), day + 1);
        }
    }

    /** Behind three days s and t of a lie at port 1, of b u; a has 11 pence, b 299. */
    private static final String PLACE = "man a 20;man b 300;sort s 3 5;sort t 2 4;sort u 1 1;deed d 0;want b d 0 50 77;want a d 0 60 66;"
            + "send a s 0;send a t 0;send b u 0;";
    private static final String[] NAMES = {"size", "rate", "pence", "aboard", "away", "worth", "day"};

    private static void namesAre(String rule, int what, int man, int which, long... due) {
        for (int i = 0; i < NAMES.length; i++) {
            // on day 0 the boat is paid as if there were no law
            String e = rule.equals("fare") ? "rate*(day=0)+" + NAMES[i] + "*(day>0)" : NAMES[i];
            PartsFerry x = DUE.ferry(PLACE + "law " + rule + " " + e + ";");
            x.go(3);
            DUE.is(rule + " " + NAMES[i] + " of " + man + " and " + which, x.law(what, man, which), due[i]);
        }
    }

    private static void namesOfFare() {
        DUE.says("Terms 2", "size: SIZE, rate: RATE of the SORT (of gain 0); pence: PENCE of the PERSON (of mix 0)");
        namesAre("fare", 0, 0, 0, 3, 5, 11, 0, 2, 0, 3);
        namesAre("fare", 0, 1, 2, 1, 1, 299, 0, 1, 0, 3);
    }

    private static void namesOfGain() {
        DUE.says("Terms 2", "worth: WORTH of the WANT (of fare, mix 0); day: the DAY");
        namesAre("gain", 1, 0, 0, 0, 0, 11, 0, 2, 77, 3);
        namesAre("gain", 1, 1, 0, 0, 0, 299, 0, 1, 77, 3);
        namesAre("gain", 1, 1, 1, 0, 0, 299, 0, 1, 66, 3);
    }

    private static void namesOfMix() {
        namesAre("mix", 2, 0, 0, 3, 5, 0, 0, 0, 0, 3);
        namesAre("mix", 2, 1, 2, 1, 1, 0, 0, 0, 0, 3);
    }

    /** What a name was in one law is not what it is in the next one. */
    private static void namesOneBehindAnother() {
        for (String name : NAMES) {
            PartsFerry x = DUE.ferry(PLACE.replace("send a s 0;send a t 0;send b u 0;", "")
                    + "law fare " + name + ";law gain " + name + ";law mix " + name + ";");
            long[] alone = new long[3];
            for (int what = 0; what < 3; what++) {
                String rule = new String[] {"fare", "gain", "mix"}[what];
                alone[what] = DUE.ferry(PLACE + "law " + rule + " " + name + ";").law(what, 0, 1);
            }
            for (int one = 0; one < 3; one++) {
                for (int other = 0; other < 3; other++) {
                    x.law(one, 1, 0);
                    DUE.is(name + " of law " + other + " behind law " + one, x.law(other, 0, 1), alone[other]);
                }
            }
        }
        PartsFerry y = DUE.ferry(PLACE + "law fare worth+1;law gain size+rate+2;law mix pence+worth+3;");
        y.law(1, 0, 0);
        DUE.is("no worth of fare", y.law(0, 0, 0), 1);
        DUE.is("no size nor rate of gain", y.law(1, 0, 0), 2);
        DUE.is("no pence nor worth of mix", y.law(2, 0, 0), 3);
    }

    private static void namesAboard() {
        DUE.says("Terms 2", "aboard: how many PARTS are ABOARD now; away: how many PARTS that this one HOLDS lie at port 1 "
                + "(of mix how many of that SORT are ABOARD)");
        PartsFerry x = DUE.ferry("man a 99;man b 99;sort s 1 0;sort t 1 0;send a s 0;send b s 0;send a t 0;send b t 1;law fare 1+10*aboard;");
        x.go(1);
        DUE.is("a pays 1 and 21", x.man(0, 0), 77);
        DUE.is("b pays 11", x.man(1, 0), 88);
        x.go(2);
        DUE.is("nothing aboard at first on day 2", x.man(1, 0), 87);
        // a part that is aboard lies where it lay until the boat comes over
        PartsFerry y = DUE.ferry("man a 99;sort s 1 0;sort t 1 0;send a s 0;send a t 0;send a s 1;send a t 1;law fare 1+10*away;");
        y.go(1);
        DUE.is("1 and 1", y.man(0, 0), 97);
        y.go(1);
        DUE.is("21 and 21", y.man(0, 0), 55);
        // away of gain ahead of the boat, aboard of gain always 0
        PartsFerry z = DUE.ferry("man a 0;sort s 1 0;deed d 0;send a s 0;want a d 0 0 0;want a d 0 1 0;law gain 1+10*away+100*aboard;");
        z.go(2);
        DUE.is("1 and 11", z.man(0, 0), 12);
        String sent = "man a 9;man b 9;man c 9;sort s 1 0;sort t 1 0;send a s 0;send b s 0;send c s 0;send a t 0;send b t 0;storm 100;";
        int[][] due = {{3, 5, 2}, {2, 5, 1}, {3, 4, 3}, {1, 5, 3}};
        for (int[] row : due) {
            PartsFerry w = DUE.ferry(sent + "law mix away=" + row[0] + " and aboard=" + row[1] + ";");
            w.go(1);
            DUE.is("own sorts with away " + row[0] + ", aboard " + row[1], w.man(0, 2), row[2]);
        }
    }

    private static long value(String e) {
        return DUE.ferry("man a 1;sort s 1 1;law fare " + e + ";").law(0, 0, 0);
    }

    private static void valuesAreOneOrZero() {
        DUE.says("Terms 2", "comparisons, and, or, not are 1 or 0 (what isn't 0 is as 1");
        long[] due = {0, 0, 0, 1};
        String[] values = {"0", "7", "(0-7)"};
        for (String one : values) {
            for (String other : values) {
                boolean isOne = !one.equals("0");
                boolean isOther = !other.equals("0");
                DUE.is(one + " and " + other, value(one + " and " + other), due[(isOne ? 1 : 0) + (isOther ? 2 : 0)]);
                DUE.is(one + " or " + other, value(one + " or " + other), isOne || isOther ? 1 : 0);
            }
            DUE.is("not " + one, value("not " + one), one.equals("0") ? 1 : 0);
        }
        DUE.is("a sum of comparisons", value("(1<2)+(2<=2)+(3=3)+(3<>4)+(4>=4)+(5>4)"), 6);
        DUE.is("a sum of others", value("(2 and 3)+(0 or 5)+(not 0)"), 3);
        DUE.is("below 0", value("0-1<0"), 1);
    }

    private static void valuesAreLongs() {
        DUE.says("Terms 2", "VALUES are longs");
        DUE.is("2 to the 31", value("4096*4096*128"), 2147483648L);
        DUE.is("2 to the 32", value("4096*4096*256"), 4294967296L);
        DUE.is("below -2 to the 31", value("0-4096*4096*128-1"), -2147483649L);
        DUE.is("a sum of such", value("1000*1000*1000+1000*1000*1000+1000*1000*1000"), 3000000000L);
        DUE.is("cut", value("1000*1000*1000*10/3"), 3333333333L);
        DUE.is("compared", value("4096*4096*256>1"), 1);
        DUE.is("not 0", value("4096*4096*256 and 1"), 1);
        DUE.is("not not 0", value("not 4096*4096*256"), 0);
    }

    private static void bothSides() {
        DUE.says("Terms 2", "both sides are worked out");
        String[] errors = {"0 and 1/0", "1/0 and 0", "1 or 1/0", "1/0 or 1", "0*(1/0)", "(1/0)*0", "not (1/0)", "1/0=1/0", "1<1/0", "1/0-1/0"};
        for (String e : errors) {
            DUE.is(e, value(e), ERROR);
        }
        DUE.is("without an error", value("0 and 1/1"), 0);
    }

    private static void cutTowardsZero() {
        DUE.says("Terms 2", "/ is cut towards 0");
        int[][] due = {{7, 2, 3}, {-7, 2, -3}, {7, -2, -3}, {-7, -2, 3}, {1, 2, 0}, {-1, 2, 0}, {6, 3, 2}, {0, 5, 0}, {5, 5, 1}, {5, 6, 0}};
        for (int[] row : due) {
            String one = row[0] < 0 ? "(0-" + -row[0] + ")" : "" + row[0];
            String other = row[1] < 0 ? "(0-" + -row[1] + ")" : "" + row[1];
            DUE.is(one + "/" + other, value(one + "/" + other), row[2]);
        }
    }

    private static void errors() {
        DUE.says("Terms 2", "ERROR: / by 0, a value above 10 to the 12 or below 0 by more than that");
        DUE.is("1/0", value("1/0"), ERROR);
        DUE.is("0/0", value("0/0"), ERROR);
        DUE.is("1/1", value("1/1"), 1);
        DUE.is("by what comes out as 0", value("1/(5-5)"), ERROR);
        DUE.is("10 to the 12", value(MUCH), TEN_TO_12);
        DUE.is("one more", value(MUCH + "+1"), ERROR);
        DUE.is("one less", value(MUCH + "-1"), TEN_TO_12 - 1);
        DUE.is("-10 to the 12", value("0-" + MUCH), -TEN_TO_12);
        DUE.is("one below", value("0-" + MUCH + "-1"), ERROR);
        DUE.is("one above", value("0-" + MUCH + "+1"), 1 - TEN_TO_12);
        DUE.is("by a product", value("1000*1000*1000*1001"), ERROR);
        DUE.is("by a product below 0", value("(0-1000)*1000*1000*1001"), ERROR);
        DUE.is("10 to the 12 by below 0", value("(0-1000)*1000*1000*1000"), -TEN_TO_12);
        DUE.is("two below 0", value("(0-1000)*1000*(0-1000)*1000"), TEN_TO_12);
        DUE.is("10 to the 24", value(MUCH + "*(" + MUCH + ")"), ERROR);
        DUE.is("2 to the 64", value("4096*4096*256*(4096*4096*256)"), ERROR);
        DUE.is("what wraps to 0 in a long", value("4096*4096*4096*(4096*4096*4096)"), ERROR);
        DUE.is("what wraps to -1 in a long", value("(4096*4096*256-1)*(4096*4096*256+1)"), ERROR);
        DUE.is("what wraps to some in a long", value("(4096*4096*256+1)*(4096*4096*256+1)"), ERROR);
        DUE.is("what wraps to some below 0", value("(4096*4096*256-1)*(0-4096*4096*256-1)"), ERROR);
    }

    private static void errorsOnTheWay() {
        DUE.is("beyond, then back", value(MUCH + "+1-1"), ERROR);
        DUE.is("beyond, then 0 times", value("0*(" + MUCH + "+1)"), ERROR);
        DUE.is("beyond, then cut", value("(" + MUCH + "+1)/1000"), ERROR);
        DUE.is("beyond, then compared", value(MUCH + "+1>0"), ERROR);
        DUE.is("at it, then cut", value("(" + MUCH + ")/1000"), TEN_TO_12 / 1000);
        DUE.is("at it, twice", value("(" + MUCH + ")-(" + MUCH + ")"), 0);
        DUE.is("at it, 0 times", value("(" + MUCH + ")*0"), 0);
        DUE.is("at it, by -1", value("(" + MUCH + ")*(0-1)"), -TEN_TO_12);
        DUE.is("at it, by 2", value("(" + MUCH + ")*2"), ERROR);
        DUE.is("-1 times it", value("(0-1)*(" + MUCH + ")"), -TEN_TO_12);
        DUE.is("-1 times 5", value("(0-1)*5"), -5);
        DUE.is("-1 times -5", value("(0-1)*(0-5)"), 5);
        DUE.is("-1 times -1", value("(0-1)*(0-1)"), 1);
        DUE.is("0 times -5", value("0*(0-5)"), 0);
    }

    private static void fiftyAtLeast() {
        DUE.says("Terms 2", "AS IT GOES: without numbers: it STORMS, if storm is 50 at least");
        int[][] due = {{0, 0}, {1, 0}, {49, 0}, {50, 2}, {51, 2}, {99, 2}, {100, 2}};
        for (int[] row : due) {
            for (int seed = 0; seed < 3; seed++) {
                PartsFerry x = DUE.ferry("man a 9;man b 9;sort s 1 0;send a s 0;send b s 0;storm " + row[0] + ";seed " + seed + ";");
                DUE.is("mixed as it goes with storm " + row[0], x.ahead(1, 4, 0), row[1]);
            }
        }
    }
}
