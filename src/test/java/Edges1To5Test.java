/** The boundary cases that promises 1 to 5 name, sentence by sentence. */
final class Edges1To5Test {
    private static final Due DUE = new Due("Edges1To5Test");
    private static final int MIN = Integer.MIN_VALUE;
    private static final int MAX = Integer.MAX_VALUE;
    private static final int BLANKS = 0x20202020;
    /** Of each kind one; all can go on day 0, and it storms by numbers. */
    private static final String ONE_OF_EACH = "man a 50;man b 50;sort s 2 3;deed d 1;send a s 0;send b s 0;want a d 1 1 9;room 5;"
            + "storm 60;seed 8;law fare 2;law gain 7;law mix 1;";

    public static void main(String[] args) {
        aTextWithoutLines();
        nothingOfANewObject();
        anEmptyTape();
        twentyBytes();
        theHighestFirst();
        behindTheTape();
        moreThan700();
        theFirstBytes();
        emptyThen();
        dayZeroThen();
        nothingOfTextsAhead();
        seedsOfTextsAhead();
        lawsOfTextsAhead();
        nothingSeenThen();
        noImageThen();
        howManyLines();
        allStaysWithAFault();
        notSoMany();
        belowZero();
        theTapeStays();
        theLatestText();
        noFault();
        anotherWhat();
        sixLetters();
        noneSuch();
        DUE.end();
    }

    private static void feedBlanks(PartsFerry x, int times) {
        for (int i = 0; i < times; i++) {
            x.feed(BLANKS, BLANKS, BLANKS, BLANKS, BLANKS);
        }
    }

    private static void aTextWithoutLines() {
        DUE.says("Promise 1", "A TEXT without LINES");
        PartsFerry x = new PartsFerry();
        for (int what = 0; what <= 15; what++) {
            DUE.is("count(" + what + ")", x.count(what), 0);
        }
        DUE.is("fault(0)", x.fault(0), 0);
        DUE.is("fault(1)", x.fault(1), -1);
        DUE.is("named(0, a)", x.named(0, 1 << 25), -1);
        DUE.is("named(0, 0)", x.named(0, 0), -1);
        DUE.is("sort(0, 0)", x.sort(0, 0), -1);
        DUE.is("deed(0)", x.deed(0), -1);
        DUE.is("sending(0, 0)", x.sending(0, 0), -1);
        DUE.is("want(0, 0)", x.want(0, 0), -1);
        DUE.is("holds(0, 0)", x.holds(0, 0), -1);
        DUE.is("port(0, 0)", x.port(0, 0), -1);
        DUE.is("can(0, 0, 0)", x.can(0, 0, 0), -1);
        for (int what = 0; what < 3; what++) {
            DUE.is("law(" + what + ", 0, 0)", x.law(what, 0, 0), Long.MIN_VALUE);
        }
        boolean isThrown = false;
        try {
            x.man(0, 0);
        } catch (IndexOutOfBoundsException e) {
            isThrown = true;
        }
        DUE.is("man(0, 0) throws", isThrown, true);
    }

    private static void nothingOfANewObject() {
        PartsFerry x = new PartsFerry();
        DUE.is("send", x.send(0, 0, 0), -1);
        DUE.is("take", x.take(0), false);
        DUE.is("swap", x.swap(0, 1, 0), false);
        DUE.is("lend", x.lend(0, 1), -1);
        DUE.is("ahead", x.ahead(99, 0, 0), 0);
        DUE.is("ahead of nobody", x.ahead(99, 3, 0), -1);
        DUE.is("first", x.first(0, 0, 0), -1);
        DUE.is("load(0)", x.load(0), 0);
        DUE.is("load(1)", x.load(1), 0);
        DUE.is("order(0)", x.order(0), -2);
        DUE.is("order(4)", x.order(4), 0);
        DUE.is("swaps", x.swaps(), 0);
        DUE.is("together", x.together(0, 1, 0), -1);
        DUE.is("needs", x.needs(0, 0, 0), -1);
        DUE.is("cheap", x.cheap(0, 0, 0), -1);
        DUE.is("rests", x.rests(0, 1, 0), -1);
        DUE.is("rest", x.rest(0, 1, 0, 0), -1);
        DUE.is("calm above", x.calm(6, 0), 1);
        DUE.is("calm below", x.calm(6, 1), 1);
        DUE.is("whose", x.whose(0, 0), -1);
        for (int what = 0; what < 3; what++) {
            DUE.is("those(" + what + ")", x.those(what), 0);
        }
        DUE.is("see", x.see(1, 0, 0, true), -1);
        DUE.is("out", x.out(0), -1);
        DUE.is("known(0)", x.known(0), true);
        DUE.is("known(1)", x.known(1), false);
        DUE.is("rooms", x.rooms(), 1023);
        DUE.is("chance", x.chance(0, 1, 0), 10);
        DUE.is("chance of one", x.chance(0, 1, 1), 0);
        DUE.is("tried", x.tried(0, 0, 99), 0);
        DUE.is("tried without nobody", x.tried(2, 0, 99), -1);
        DUE.is("undo", x.undo(), -1);
        DUE.is("back", x.back(), -1);
        DUE.is("keep", x.keep(), 0);
        DUE.is("go", x.go(99), 99);
        DUE.is("back to what was kept", x.back(), 0);
    }

    private static void anEmptyTape() {
        DUE.says("Promise 1", "an empty TAPE");
        PartsFerry x = new PartsFerry();
        DUE.is("text(1)", x.text(1), -2);
        DUE.is("text(0)", x.text(0), 0);
        DUE.is("feed", x.feed(0, 0, 0, 0, 0), 20);
    }

    private static void twentyBytes() {
        DUE.says("Promise 2", "Twenty bytes come behind the TAPE");
        PartsFerry x = new PartsFerry();
        DUE.is("feed", x.feed(BLANKS, BLANKS, BLANKS, BLANKS, BLANKS), 20);
        DUE.is("text(21)", x.text(21), -2);
        DUE.is("text(20)", x.text(20), 0);
        DUE.is("feed again", x.feed(BLANKS, BLANKS, BLANKS, BLANKS, BLANKS), 20);
        DUE.is("feed more", x.feed(BLANKS, BLANKS, BLANKS, BLANKS, BLANKS), 40);
        DUE.is("text(41)", x.text(41), -2);
        DUE.is("text(40)", x.text(40), 0);
    }

    private static void theHighestFirst() {
        DUE.says("Promise 2", "four of each number, the highest first");
        PartsFerry x = new PartsFerry();
        // "man a 20;sort s 3 5;"
        x.feed(0x6d616e20, 0x61203230, 0x3b736f72, 0x74207320, 0x3320353b);
        DUE.is("text(20)", x.text(20), 2);
        DUE.is("pence", x.man(0, 0), 20);
        DUE.is("size", x.sort(0, 0), 3);
        DUE.is("rate", x.sort(0, 1), 5);
        // one byte that is none, at each of the twenty places
        for (int place = 0; place < 20; place++) {
            for (int bad : new int[] {0, 127, 128, 255}) {
                int[] numbers = {BLANKS, BLANKS, BLANKS, BLANKS, BLANKS};
                int shift = 24 - 8 * (place % 4);
                numbers[place / 4] = numbers[place / 4] & ~(255 << shift) | bad << shift;
                x.feed(numbers[0], numbers[1], numbers[2], numbers[3], numbers[4]);
                DUE.is("byte " + bad + " at " + place, x.text(20), -1);
                DUE.is("its fault", x.fault(0), 1);
                DUE.is("its place", x.fault(1), place);
            }
        }
    }

    private static void behindTheTape() {
        DUE.says("Promise 2", "how many it has");
        PartsFerry x = new PartsFerry();
        for (int i = 1; i <= 34; i++) {
            DUE.is("feed " + i, x.feed(BLANKS, BLANKS, BLANKS, BLANKS, BLANKS), 20 * i);
        }
        // " ... room 7;" as the last bytes of 700
        DUE.is("feed 35", x.feed(BLANKS, BLANKS, BLANKS, 0x20726f6f, 0x6d20373b), 700);
        DUE.is("text(700)", x.text(700), 1);
        PartsFerry y = new PartsFerry();
        feedBlanks(y, 34);
        y.feed(BLANKS, BLANKS, BLANKS, 0x20726f6f, 0x6d203720);
        DUE.is("text(700) without its ;", y.text(700), -1);
        DUE.is("its place", y.fault(1), 700);
    }

    private static void moreThan700() {
        DUE.says("Promise 2", "NONE, and none come, if it would have more than 700");
        PartsFerry x = new PartsFerry();
        feedBlanks(x, 35);
        DUE.is("feed 36", x.feed(-1, -1, -1, -1, -1), -1);
        DUE.is("feed 37", x.feed(-1, -1, -1, -1, -1), -1);
        DUE.is("text(701)", x.text(701), -2);
        DUE.is("text(720)", x.text(720), -2);
        DUE.is("text(700), as if nothing had come", x.text(700), 0);
        DUE.is("feed behind it", x.feed(0, 0, 0, 0, 0), 20);
    }

    private static void theFirstBytes() {
        DUE.says("Promise 3", "The TAPE's first n bytes");
        String text = "room 7;storm 1;seed 2;";
        int[] cuts = {0, 7, 15, 22};
        for (int lines = 0; lines < 4; lines++) {
            PartsFerry x = new PartsFerry();
            Due.feed(x, text);
            DUE.is("text(" + cuts[lines] + ")", x.text(cuts[lines]), lines);
        }
        // a word, a number, a sign of two that stand behind the first n are not read on
        int[] places = {0, 0, 0, 0, 4, 5, 6};
        for (int n = 1; n < 7; n++) {
            PartsFerry x = new PartsFerry();
            Due.feed(x, text);
            DUE.is("text(" + n + ")", x.text(n), -1);
            DUE.is("its place", x.fault(1), places[n]);
        }
        PartsFerry cut = new PartsFerry();
        Due.feed(cut, "man a 9999;");
        DUE.is("text(9) of man a 9999;", cut.text(9), -1);
        DUE.is("999 are not too much", cut.fault(0), 1);
        DUE.is("its place", cut.fault(1), 9);
        Due.feed(cut, "law fare 1<=>2;");
        DUE.is("text(11) of law fare 1<=>2;", cut.text(11), -1);
        DUE.is("its place", cut.fault(1), 11);
        // a number is cut, too
        PartsFerry x = new PartsFerry();
        Due.feed(x, "man a 55;man b 777 ");
        DUE.is("text(16)", x.text(16), -1);
        DUE.is("its place", x.fault(1), 16);
    }

    private static void emptyThen() {
        DUE.says("Promise 3", "(it is empty then)");
        PartsFerry x = new PartsFerry();
        feedBlanks(x, 3);
        DUE.is("text(5) of 60", x.text(5), 0);
        DUE.is("text(1)", x.text(1), -2);
        feedBlanks(x, 3);
        DUE.is("text(0) of 60", x.text(0), 0);
        DUE.is("text(1)", x.text(1), -2);
        x.feed(-1, -1, -1, -1, -1);
        DUE.is("text(20) with a fault", x.text(20), -1);
        DUE.is("text(1)", x.text(1), -2);
        DUE.is("feed", x.feed(0, 0, 0, 0, 0), 20);
    }

    private static void dayZeroThen() {
        DUE.says("Promise 3", "(DAY 0, all at port 0, each HOLDS the own PARTS, nothing GONE, SEEN, all KNOWN, no IMAGE, nothing to undo then)");
        PartsFerry x = DUE.ferry(ONE_OF_EACH);
        x.swap(0, 1, 0);
        x.go(1);
        DUE.is("at port 1", x.port(0, 0), 1);
        x.go(6);
        DUE.is("the same text", Due.tell(x, ONE_OF_EACH), 13);
        DUE.is("the day", x.count(6), 0);
        for (int man = 0; man < 2; man++) {
            DUE.is("port of " + man, x.port(man, 0), 0);
            DUE.is("held by " + man, x.holds(man, 0), man);
            DUE.is("pence of " + man, x.man(man, 0), 50);
            DUE.is("state of sending " + man, x.sending(man, 3), 0);
        }
        DUE.is("gone", x.count(9), 0);
        DUE.is("met", x.count(7), 0);
        DUE.is("missed", x.count(8), 0);
        DUE.is("storms", x.count(12), 0);
        DUE.is("its want", x.want(0, 5), 0);
        DUE.is("mixed", x.count(11), 0);
        PartsFerry fresh = DUE.ferry(ONE_OF_EACH);
        for (int day = 0; day < 30; day++) {
            x.go(1);
            fresh.go(1);
            DUE.is("numbers from the seed on, day " + day, x.count(12), fresh.count(12));
        }
    }

    /** Texts one behind another: nothing of the ones ahead is left, with a fault or without. */
    private static void nothingOfTextsAhead() {
        String full = "man a 7;man b 8;sort s 9 9;sort t 9 9;deed d 3;send a s 0;send b t 0;want a d 1 1 9;room 30;storm 100;seed 9;"
                + "law fare 1+2*3;law gain 4;law mix 0;";
        String[] between = {full, full + "?", "law fare (1+(2*?;", "law fare 1+(not 2;", "law gain ((((((((1;", full};
        PartsFerry x = new PartsFerry();
        for (String text : between) {
            Due.tell(x, full);
            Due.tell(x, text);
            Due.tell(x, text);
            DUE.is("an empty text behind " + text, x.text(0), 0);
            for (int what = 0; what <= 15; what++) {
                DUE.is("count(" + what + ") behind " + text, x.count(what), 0);
            }
            DUE.is("calm behind " + text, x.calm(1, 0), 1);
        }
        String few = "man a 7;man b 7;sort s 9 1;sort t 1 1;send a s 0;send a t 0;send b s 0;send b t 0;";
        for (int again = 0; again < 3; again++) {
            Due.tell(x, full);
            DUE.is("a text", Due.tell(x, few), 8);
            DUE.is("no deeds", x.count(2), 0);
            DUE.is("no wants", x.count(4), 0);
            DUE.is("no knots", x.count(5), 0);
            for (int what = 0; what < 3; what++) {
                DUE.is("no law " + what, x.law(what, 0, 0), Long.MIN_VALUE);
            }
            DUE.is("room 9", x.ahead(1, 2, 0), 1);
            DUE.is("no storms", x.calm(1, 0), 1);
            x.swap(0, 1, 0);
            x.swap(0, 1, 1);
        }
        Due.tell(x, few);
        DUE.is("own parts again", x.count(11), 0);
        DUE.is("of a, too", x.man(0, 2), 3);
    }

    private static void seedsOfTextsAhead() {
        PartsFerry fresh = DUE.ferry("storm 50;");
        PartsFerry x = DUE.ferry("storm 50;seed 99999;");
        Due.tell(x, "storm 50;seed 99999;");
        Due.tell(x, "storm 50;");
        for (int day = 0; day < 60; day++) {
            fresh.go(1);
            x.go(1);
            DUE.is("storms from seed 0 on", x.count(12), fresh.count(12));
        }
    }

    private static void lawsOfTextsAhead() {
        String nots = "not ".repeat(63);
        String sum = "1" + "+1".repeat(31);
        PartsFerry x = new PartsFerry();
        for (int again = 0; again < 3; again++) {
            DUE.is("64 knots", Due.tell(x, "man a 7;sort s 1 1;law fare " + nots + "((((((((1))))))));"), 3);
            DUE.is("their E", x.law(0, 0, 0), 0);
            DUE.is("a fault inside E", Due.tell(x, "law fare ((((((((1+2*(3;"), -1);
            DUE.is("63 knots", Due.tell(x, "man a 7;sort s 1 1;law mix 5;law fare " + sum + ";"), 4);
            DUE.is("their E", x.law(0, 0, 0), 32);
            DUE.is("of the other law", x.law(2, 0, 0), 5);
            DUE.is("a fault behind E", Due.tell(x, "law fare " + nots + "1 1;"), -1);
        }
    }

    private static void nothingSeenThen() {
        PartsFerry x = DUE.ferry(ONE_OF_EACH);
        x.see(1, 0, 0, false);
        x.see(1, 1, 0, false);
        x.out(0);
        x.known(1);
        Due.tell(x, ONE_OF_EACH);
        DUE.is("seen", x.count(13), 0);
        DUE.is("known by", x.count(14), 0);
        DUE.is("rooms", x.rooms(), 1023);
        DUE.is("numbered from 0 on again", x.see(1, 0, 0, true), 0);
        DUE.is("all are known again", x.rooms(), 1022);
        DUE.is("known(2)", x.known(2), false);
    }

    private static void noImageThen() {
        PartsFerry x = DUE.ferry(ONE_OF_EACH);
        x.keep();
        x.lend(0, 5);
        x.send(0, 0, 5);
        Due.tell(x, ONE_OF_EACH);
        DUE.is("nothing to undo", x.count(15), 0);
        DUE.is("undo", x.undo(), -1);
        DUE.is("no sending put by call", x.count(3), 2);
        DUE.is("no pence lent", x.man(0, 0), 50);
        DUE.is("no image", x.back(), -1);
        x.keep();
        DUE.is("text(0)", x.text(0), 0);
        DUE.is("no image behind an empty text", x.back(), -1);
    }

    private static void howManyLines() {
        DUE.says("Promise 3", "how many LINES");
        DUE.is("none", Due.tell(new PartsFerry(), ""), 0);
        DUE.is("one", Due.tell(new PartsFerry(), "room 1;"), 1);
        DUE.is("13", Due.tell(new PartsFerry(), ONE_OF_EACH), 13);
        String many = "man a 1;sort s 1 1;deed d 1;" + "send a s 1;".repeat(12) + "want a d 1 1 1;".repeat(8)
                + "room 1;storm 1;seed 1;law fare 1;law gain 1;law mix 1;";
        DUE.is("29", Due.tell(new PartsFerry(), many), 29);
    }

    private static int[] allOf(PartsFerry x) {
        int[] all = {x.count(0), x.count(1), x.count(2), x.count(3), x.count(4), x.count(5), x.count(6), x.count(7), x.count(8),
            x.count(9), x.count(10), x.count(11), x.count(12), x.count(13), x.count(14), x.count(15), x.man(0, 0), x.man(1, 0),
            x.sort(0, 0), x.sort(0, 1), x.deed(0), x.sending(0, 3), x.sending(1, 3), x.sending(2, 2), x.want(0, 5), x.holds(0, 0),
            x.port(0, 0), x.port(1, 0), (int) x.law(0, 0, 0), (int) x.law(1, 0, 0), (int) x.law(2, 0, 0), (int) x.calm(1, 1),
            x.rooms(), x.named(0, Due.letters("a")), x.named(0, Due.letters("q"))};
        return all;
    }

    private static void allStaysWithAFault() {
        DUE.says("Promise 3", "NONE with a FAULT, all stays");
        String[] wrong = {"?", "man q 1000;", "man q 1;man q 1;", "send q q 1;", "man q 1;sort q 9 9;deed q 9;room 30;storm 100;seed 9;"
                + "law fare 1;law gain 1;law mix 0;send q q 1;want q q 1 1 1;x"};
        for (String text : wrong) {
            PartsFerry x = DUE.ferry(ONE_OF_EACH);
            x.go(2);
            x.keep();
            x.see(1, 0, 0, true);
            x.see(2, 0, 0, true);
            x.known(1);
            x.lend(0, 5);
            x.send(1, 0, 50);
            int[] all = allOf(x);
            DUE.is("text " + text, Due.tell(x, text), -1);
            int[] then = allOf(x);
            for (int i = 0; i < all.length; i++) {
                DUE.is("answer " + i + " behind " + text, then[i], all[i]);
            }
            DUE.is("undo", x.undo(), 1);
            DUE.is("no sending any more", x.count(3), 2);
            DUE.is("undo", x.undo(), 0);
            DUE.is("back", x.back(), 2);
            PartsFerry fresh = DUE.ferry(ONE_OF_EACH);
            fresh.go(22);
            x.go(20);
            DUE.is("the numbers go on", x.count(12), fresh.count(12));
        }
    }

    private static void notSoMany() {
        DUE.says("Promise 3", "there are not so many");
        PartsFerry x = new PartsFerry();
        feedBlanks(x, 2);
        DUE.is("text(41)", x.text(41), -2);
        DUE.is("text(MAX)", x.text(MAX), -2);
        DUE.is("text(40)", x.text(40), 0);
        PartsFerry full = new PartsFerry();
        feedBlanks(full, 35);
        DUE.is("text(701)", full.text(701), -2);
        DUE.is("text(700)", full.text(700), 0);
    }

    private static void belowZero() {
        DUE.says("Promise 3", "n is below 0");
        PartsFerry x = DUE.ferry(ONE_OF_EACH);
        feedBlanks(x, 2);
        DUE.is("text(-1)", x.text(-1), -2);
        DUE.is("text(MIN)", x.text(MIN), -2);
        DUE.is("the text stays", x.count(0), 2);
        DUE.is("text(0)", x.text(0), 0);
        DUE.is("another text", x.count(0), 0);
    }

    private static void theTapeStays() {
        DUE.says("Promise 3", "-2, and the TAPE stays");
        PartsFerry x = new PartsFerry();
        Due.feed(x, "room 7;storm 3;");
        x.text(21);
        x.text(-1);
        DUE.is("feed", x.feed(BLANKS, BLANKS, BLANKS, BLANKS, BLANKS), 40);
        DUE.is("text(41)", x.text(41), -2);
        DUE.is("text(40)", x.text(40), 2);
        DUE.is("its storm", x.calm(1, 0), 97);
    }

    private static void theLatestText() {
        DUE.says("Promise 4", "Of the latest text() that was not -2, what 0: its FAULT (0), 1: its place (NONE without)");
        PartsFerry x = new PartsFerry();
        String[] texts = {"man a 1000;", "room 1;", "man a 1;man a 1;", "send a s 1;", "", "?"};
        int[] faults = {2, 0, 3, 4, 0, 1};
        int[] places = {6, -1, 12, 5, -1, 0};
        for (int i = 0; i < texts.length; i++) {
            Due.tell(x, texts[i]);
            for (int again = 0; again < 2; again++) {
                DUE.is("fault(0) of " + texts[i], x.fault(0), faults[i]);
                DUE.is("fault(1) of " + texts[i], x.fault(1), places[i]);
                x.text(-1);
                x.text(1);
                x.text(701);
            }
        }
        PartsFerry fresh = new PartsFerry();
        fresh.text(1);
        DUE.is("fault(0) ahead of any", fresh.fault(0), 0);
        DUE.is("fault(1) ahead of any", fresh.fault(1), -1);
    }

    private static void noFault() {
        PartsFerry x = new PartsFerry();
        Due.tell(x, "?");
        x.feed(BLANKS, BLANKS, BLANKS, BLANKS, BLANKS);
        DUE.is("feed leaves the fault", x.fault(0), 1);
        DUE.is("and its place, which is 0", x.fault(1), 0);
        x.go(5);
        x.keep();
        x.back();
        DUE.is("and so do others", x.fault(0), 1);
        DUE.is("a right text", x.text(20), 0);
        DUE.is("no fault", x.fault(0), 0);
        DUE.is("no place", x.fault(1), -1);
    }

    private static void anotherWhat() {
        DUE.says("Promise 4", "NONE for another what");
        PartsFerry x = new PartsFerry();
        Due.tell(x, "room 1;?");
        DUE.is("fault(0)", x.fault(0), 1);
        DUE.is("fault(1)", x.fault(1), 7);
        for (int what : new int[] {-1, 2, 3, MIN, MAX}) {
            DUE.is("fault(" + what + ")", x.fault(what), -1);
        }
    }

    private static void sixLetters() {
        DUE.says("Promise 5", "5 bits each (a is 1; the first one highest of six, 0 behind the last one)");
        PartsFerry x = DUE.ferry("man a 1;man z 1;man zzzzzz 1;man az 1;man abcdef 1;sort a 1 1;deed z 1;");
        DUE.is("a", x.named(0, 1 << 25), 0);
        DUE.is("z", x.named(0, 26 << 25), 1);
        DUE.is("zzzzzz", x.named(0, 26 << 25 | 26 << 20 | 26 << 15 | 26 << 10 | 26 << 5 | 26), 2);
        DUE.is("az", x.named(0, 1 << 25 | 26 << 20), 3);
        DUE.is("abcdef", x.named(0, 1 << 25 | 2 << 20 | 3 << 15 | 4 << 10 | 5 << 5 | 6), 4);
        DUE.is("sort a", x.named(1, 1 << 25), 0);
        DUE.is("deed z", x.named(2, 26 << 25), 0);
    }

    private static void noneSuch() {
        DUE.says("Promise 5", "NONE: there is none such");
        PartsFerry x = DUE.ferry("man a 1;man abcdef 1;sort b 1 1;deed c 1;");
        int[] none = {0, 1, 2 << 25, 1 << 20, 1 << 25 | 1, 1 << 25 | 1 << 20, 1 << 25 | 1 << 30, 1 << 25 | 1 << 31, -1, MIN, MAX,
            1 << 25 | 2 << 20 | 3 << 15 | 4 << 10 | 5 << 5, 1 << 25 | 2 << 20 | 3 << 15 | 4 << 10 | 5 << 5 | 7,
            1 << 20 | 2 << 15 | 3 << 10 | 4 << 5 | 5};
        for (int letters : none) {
            DUE.is("named(0, " + letters + ")", x.named(0, letters), -1);
        }
        DUE.is("sort a", x.named(1, 1 << 25), -1);
        DUE.is("deed a", x.named(2, 1 << 25), -1);
        DUE.is("sort c", x.named(1, 3 << 25), -1);
        for (int what : new int[] {-1, 3, 4, MIN, MAX}) {
            DUE.is("named(" + what + ", a)", x.named(what, 1 << 25), -1);
        }
        Due.tell(x, "man b 1;");
        DUE.is("a name of the text ahead", x.named(0, 1 << 25), -1);
    }
}
