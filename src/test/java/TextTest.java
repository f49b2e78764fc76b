/** Promises 1 to 5, and what the terms say of a text. */
final class TextTest {
    private static final Due DUE = new Due("TextTest");

    public static void main(String[] args) {
        aNewObject();
        feeding();
        texts();
        whatATextResets();
        whatAFaultLeaves();
        wrongTokens();
        tooMuch();
        toldAlready();
        notTold();
        theFirstFault();
        tokensOfE();
        knots();
        brackets();
        names();
        DUE.end();
    }

    private static void aNewObject() {
        PartsFerry x = new PartsFerry();
        for (int what = 0; what <= 15; what++) {
            DUE.is("new count(" + what + ")", x.count(what), 0);
        }
        DUE.is("new fault(0)", x.fault(0), 0);
        DUE.is("new fault(1)", x.fault(1), -1);
        DUE.is("new text(1)", x.text(1), -2);
        DUE.is("new calm", x.calm(6, 0), 1);
        DUE.is("new undo", x.undo(), -1);
        DUE.is("new back", x.back(), -1);
        DUE.is("first feed", x.feed(0, 0, 0, 0, 0), 20);
    }

    private static void feeding() {
        PartsFerry x = new PartsFerry();
        for (int i = 1; i <= 35; i++) {
            DUE.is("feed " + i, x.feed(0x20202020, 0x20202020, 0x20202020, 0x20202020, 0x2020200a), 20 * i);
        }
        DUE.is("feed 36", x.feed(1, 1, 1, 1, 1), -1);
        DUE.is("text(701)", x.text(701), -2);
        DUE.is("text(700) of blanks", x.text(700), 0);
        DUE.is("text(1) of what was emptied", x.text(1), -2);
        x.feed(0x726f6f6d, 0x20373b3b, 0xffffffff, 0, 0);
        DUE.is("room 7;", x.text(7), 1);
        x.feed(0x726f6f6d, 0x20373b3b, 0xffffffff, 0, 0);
        DUE.is("room 7;; faults", x.text(8), -1);
        DUE.is("its place", x.fault(1), 7);
    }

    private static void texts() {
        lines("", 0);
        lines(" \n ", 0);
        lines("man a 0;", 1);
        lines("\nman\na\n0\n;\n", 1);
        lines("man a0;man b007;", 2);
        lines("man a 999;man b 0;sort a 1 0;sort b 9 99;deed a 0;deed b 31;send a b 99;send a b 0;", 8);
        lines("man a 1;deed a 0;want a a 0 0 0;want a a 1 99 99;", 4);
        lines("room 1;storm 0;seed 0;", 3);
        lines("seed 99999;storm 100;room 30;", 3);
        lines("man abcdef 1;sort abcdef 1 1;deed abcdef 1;send abcdef abcdef 1;want abcdef abcdef 1 1 1;", 5);
        lines("law fare 0;law gain 9999;law mix 00001;", 3);
        lines("man a 0;man b 0;man c 0;man d 0;man e 0;", 5);
        lines("sort a 1 0;sort b 1 0;sort c 1 0;sort d 1 0;sort e 1 0;", 5);
        lines("deed a 1;deed b 1;deed c 1;deed d 1;deed e 1;", 5);
        lines("man a 0;sort s 1 1;" + "send a s 1;".repeat(12), 14);
        lines("man a 0;deed s 1;" + "want a s 1 1 1;".repeat(8), 10);
    }

    private static void lines(String text, int lines) {
        PartsFerry x = new PartsFerry();
        DUE.is("text " + text, Due.tell(x, text), lines);
        DUE.is("fault(0) of " + text, x.fault(0), 0);
        DUE.is("fault(1) of " + text, x.fault(1), -1);
        DUE.is("fault(2)", x.fault(2), -1);
        DUE.is("fault(-1)", x.fault(-1), -1);
    }

    private static void whatATextResets() {
        PartsFerry x = DUE.ferry("man a 50;man b 7;sort s 2 3;deed d 1;send a s 0;want a d 1 1 9;storm 100;seed 5;room 3;"
                + "law mix 1;");
        x.go(3);
        x.see(1, 0, 0, true);
        x.known(0);
        x.keep();
        x.lend(0, 5);
        DUE.is("a text in its place", Due.tell(x, "man z 4;sort s 1 1;sort t 1 1;deed d 3;"), 4);
        int[] counts = {1, 2, 1, 0, 0, 0, 0, 0, 0, 0, 4, 0, 0, 0, 0, 0};
        for (int what = 0; what < counts.length; what++) {
            DUE.is("count(" + what + ") behind another text", x.count(what), counts[what]);
        }
        DUE.is("no image", x.back(), -1);
        DUE.is("nothing to undo", x.undo(), -1);
        DUE.is("at port 0", x.port(0, 0), 0);
        DUE.is("room 9 again", x.load(0), 0);
        DUE.is("no storms again", x.calm(1, 0), 1);
        x.see(1, 0, 0, false);
        DUE.is("all known", x.count(14), 1);
        DUE.is("an empty text", x.text(0), 0);
        DUE.is("nobody", x.count(0), 0);
        Due.tell(x, "man a 9;sort s 9 1;sort t 1 1;send a s 0;send a t 0;");
        DUE.is("room 9 without", x.load(0), 1);
        DUE.is("one of both fits", x.ahead(1, 2, 0), 1);
    }

    private static void whatAFaultLeaves() {
        PartsFerry x = DUE.ferry("man a 50;sort s 2 3;send a s 0;room 3;");
        x.go(1);
        x.keep();
        x.lend(0, 5);
        x.see(1, 0, 0, true);
        DUE.is("a fault", Due.tell(x, "man q 7;sort r 1 1;law fare 7;room 30;storm 100;x"), -1);
        DUE.is("its number", x.fault(0), 1);
        DUE.is("its place", x.fault(1), 48);
        DUE.is("the person stays", x.named(0, Due.letters("a")), 0);
        DUE.is("no other comes", x.named(0, Due.letters("q")), -1);
        DUE.is("pence stay", x.count(10), 52);
        DUE.is("the day stays", x.count(6), 1);
        DUE.is("no law comes", x.law(0, 0, 0), Long.MIN_VALUE);
        DUE.is("no storm comes", x.calm(1, 0), 1);
        DUE.is("what was seen stays", x.count(13), 1);
        DUE.is("undo stays", x.undo(), 0);
        DUE.is("the image stays", x.back(), 1);
        x.feed(0, 0, 0, 0, 0);
        DUE.is("too long", x.text(21), -2);
        DUE.is("below 0", x.text(-1), -2);
        DUE.is("the fault of the text ahead", x.fault(0), 1);
        DUE.is("the tape stays", x.feed(0, 0, 0, 0, 0), 40);
        DUE.is("a right one", Due.tell(new PartsFerry(), "room 5;"), 1);
        DUE.is("text(0)", x.text(0), 0);
        DUE.is("no fault any more", x.fault(0), 0);
        DUE.is("nor its place", x.fault(1), -1);
    }

    private static void faults(String text, int number, int place) {
        PartsFerry x = new PartsFerry();
        DUE.is("text " + text, Due.tell(x, text), -1);
        DUE.is("fault(0) of " + text, x.fault(0), number);
        DUE.is("fault(1) of " + text, x.fault(1), place);
    }

    private static void wrongTokens() {
        faults("man a 5", 1, 7);
        faults("man a 5 \n", 1, 9);
        faults("man", 1, 3);
        faults(";", 1, 0);
        faults("man a 5;;", 1, 8);
        faults("man 5 a;", 1, 4);
        faults("man a b;", 1, 6);
        faults("man man 5;", 1, 4);
        faults("man day 5;", 1, 4);
        faults("man not 5;", 1, 4);
        faults("man abcdefg 5;", 1, 4);
        faults("man a 5 5;", 1, 8);
        faults("Man a 5;", 1, 0);
        faults("man a\t5;", 1, 5);
        faults("man a\r5;", 1, 5);
        faults("man a -5;", 1, 6);
        faults("man a 5:", 1, 7);
        faults("manx a 5;", 1, 0);
        faults("fare a 5;", 1, 0);
        faults("size 5;", 1, 0);
        faults("man a 5;" + (char) 233, 1, 8);
        faults("man a 5;" + (char) 0, 1, 8);
        faults("sort a 5;", 1, 8);
        faults("man a 1;sort b 1 1;send a b;", 1, 27);
        faults("man a 1;sort b 1 1;send a 5 5;", 1, 26);
        faults("room ;", 1, 5);
        faults("room a;", 1, 5);
        faults("room 5", 1, 6);
        faults("law", 1, 3);
        faults("law 5;", 1, 4);
        faults("law away 5;", 1, 4);
        faults("law or 5;", 1, 4);
        faults("law storm 5;", 1, 4);
        faults("law fare", 1, 8);
        faults("law fare 5", 1, 10);
    }

    private static void tooMuch() {
        faults("man a 1000;", 2, 6);
        faults("man a 99999999999999999999999999;", 2, 6);
        faults("man a 4294967296;", 2, 6);
        faults("sort a 0 1;", 2, 7);
        faults("sort a 10 1;", 2, 7);
        faults("sort a 9 100;", 2, 9);
        faults("deed a 32;", 2, 7);
        faults("man a 1;sort s 1 1;send a s 100;", 2, 28);
        faults("man a 1;deed s 1;want a s 2 1 1;", 2, 26);
        faults("man a 1;deed s 1;want a s 1 100 1;", 2, 28);
        faults("man a 1;deed s 1;want a s 1 1 100;", 2, 30);
        faults("room 0;", 2, 5);
        faults("room 31;", 2, 5);
        faults("storm 101;", 2, 6);
        faults("seed 100000;", 2, 5);
        faults("law fare 10000;", 2, 9);
        faults("man a 0;man b 0;man c 0;man d 0;man e 0;man a 0;", 2, 40);
        faults("sort a 1 0;sort b 1 0;sort c 1 0;sort d 1 0;sort e 1 0; sort f 99 0;", 2, 56);
        faults("deed a 1;deed b 1;deed c 1;deed d 1;deed e 1;deed", 2, 45);
        faults("man a 0;sort s 1 1;" + "send a s 1;".repeat(13), 2, 151);
        faults("man a 0;deed s 1;" + "want a s 1 1 1;".repeat(9), 2, 137);
    }

    private static void toldAlready() {
        faults("man a 1;man a 1;", 3, 12);
        faults("sort a 1 1;sort a 1 1;", 3, 16);
        faults("deed a 1;deed b 1;deed a 1;", 3, 23);
        faults("room 5;room 5;", 3, 7);
        faults("room 9;room 9;", 3, 7);
        faults("storm 0;storm 5;", 3, 8);
        faults("seed 0;man a 5;seed 0;", 3, 15);
        faults("law fare 0;law fare 1;", 3, 15);
        faults("law gain 0;law gain 1;", 3, 15);
        faults("law mix 0;law fare 1;law mix (;", 3, 25);
        lines("man a 1;sort a 1 1;deed a 1;", 3);
    }

    private static void notTold() {
        faults("man a 1;sort s 1 1;send b s 1;", 4, 24);
        faults("man a 1;sort s 1 1;send a a 1;", 4, 26);
        faults("man a 1;sort s 1 1;send s s 1;", 4, 24);
        faults("man a 1;deed s 1;want s s 1 1 1;", 4, 22);
        faults("man a 1;sort t 1 1;deed s 1;want a t 1 1 1;", 4, 35);
        faults("man a 1;send a s 1;sort s 1 1;", 4, 15);
        faults("send a b", 4, 5);
    }

    /** The first along the text, whatever else is wrong behind it. */
    private static void theFirstFault() {
        faults("man a 1000;man a 5;?", 2, 6);
        faults("man a 5;man a 1000;", 3, 12);
        faults("send x y 1000;", 4, 5);
        faults("room 5;room 99;", 3, 7);
        faults("man a 0;man b 0;man c 0;man d 0;man e 0;man 7", 2, 40);
    }

    private static void tokensOfE() {
        lines("law fare 1<=2;", 1);
        lines("law fare 1<>2 and 1>=2 or 1=2;", 1);
        lines("law fare not not 1<2;", 1);
        lines("law fare not(1)and(not 2)*3;", 1);
        lines("law fare(size+rate)*(pence-aboard)/(away+worth+day);", 1);
        lines("law fare 1 and not 2 or not 3;", 1);
        faults("law fare 1< =2;", 1, 12);
        faults("law fare 1=<2;", 1, 11);
        faults("law fare 1><2;", 1, 11);
        faults("law fare 1<>=2;", 1, 12);
        faults("law fare 1<2<3;", 1, 12);
        faults("law fare 1=2=3;", 1, 12);
        lines("law fare (1<2)<3;", 1);
        lines("law fare 1<(2<3);", 1);
        lines("law fare 1<2 and 3<4;", 1);
        faults("law fare 1+not 2;", 1, 11);
        faults("law fare 1<not 2;", 1, 11);
        faults("law fare 2*not 2;", 1, 11);
        faults("law fare -1;", 1, 9);
        faults("law fare 1 2;", 1, 11);
        faults("law fare size rate;", 1, 14);
        faults("law fare 1 not 2;", 1, 11);
        faults("law fare 1 (2);", 1, 11);
        faults("law fare ();", 1, 10);
        faults("law fare (1;", 1, 11);
        faults("law fare (1", 1, 11);
        faults("law fare 1);", 1, 10);
        faults("law fare ;", 1, 9);
        faults("law fare 1+;", 1, 11);
        faults("law fare 1 or;", 1, 13);
        faults("law fare not;", 1, 12);
        faults("law fare and 1;", 1, 9);
        faults("law fare abc;", 1, 9);
        faults("law fare man;", 1, 9);
        faults("law fare mix;", 1, 9);
        faults("law fare 1 ? 2;", 1, 11);
        faults("law fare 1 + abcdefgh;", 1, 13);
    }

    private static void knots() {
        PartsFerry x = DUE.ferry("law fare not 1;law gain (2);law mix size+(rate);");
        DUE.is("brackets are no knots", x.count(5), 6);
        String sixtyThree = "1" + "+1".repeat(31);
        lines("law fare " + sixtyThree + ";law gain day;", 2);
        faults("law fare " + sixtyThree + ";law gain not 1;", 2, 9 + 63 + 1 + 9 + 4);
        faults("law fare " + sixtyThree + ";law gain day+1;", 2, 9 + 63 + 1 + 9 + 3);
        faults("law fare " + sixtyThree + "+1;", 2, 9 + 64);
        faults("law fare " + sixtyThree + "+?;", 1, 9 + 64);
        faults("law fare " + sixtyThree + "+1000000;", 2, 9 + 64);
        faults("law fare " + "not ".repeat(64) + "1;", 2, 9 + 256);
        faults("law fare " + "not ".repeat(70) + "1;", 2, 9 + 256);
        PartsFerry y = DUE.ferry("man a 1;sort s 1 1;law fare " + "not ".repeat(63) + "1;");
        DUE.is("64 knots", y.count(5), 64);
        DUE.is("63 times not", y.law(0, 0, 0), 0);
    }

    private static void brackets() {
        lines("law fare " + "(".repeat(8) + "1" + ")".repeat(8) + ";", 1);
        faults("law fare " + "(".repeat(9) + "1" + ")".repeat(9) + ";", 2, 17);
        faults("law fare " + "(".repeat(9), 2, 17);
        faults("law fare " + "(".repeat(8), 1, 17);
        lines("law fare " + "(1)*".repeat(12) + "1;law mix ((((((((1))))))));", 2);
        faults("law fare " + "(1)*".repeat(3) + "(".repeat(9) + "1;", 2, 29);
        faults("law fare ((((((((1)))))))));", 1, 26);
    }

    private static void names() {
        PartsFerry x = DUE.ferry("man a 1;man ab 1;man abcdef 1;man z 1;sort z 1 1;deed zz 1;deed z 1;");
        DUE.is("a", x.named(0, 1 << 25), 0);
        DUE.is("ab", x.named(0, 1 << 25 | 2 << 20), 1);
        DUE.is("abcdef", x.named(0, 1 << 25 | 2 << 20 | 3 << 15 | 4 << 10 | 5 << 5 | 6), 2);
        DUE.is("z", x.named(0, 26 << 25), 3);
        DUE.is("sort z", x.named(1, 26 << 25), 0);
        DUE.is("deed z", x.named(2, 26 << 25), 1);
        DUE.is("deed zz", x.named(2, 26 << 25 | 26 << 20), 0);
        DUE.is("sort a", x.named(1, 1 << 25), -1);
        DUE.is("letters not in their places", x.named(0, 1), -1);
        DUE.is("0", x.named(0, 0), -1);
        DUE.is("below 0", x.named(0, -1), -1);
        DUE.is("what 3", x.named(3, 1 << 25), -1);
        DUE.is("what -1", x.named(-1, 1 << 25), -1);
        DUE.is("bits above", x.named(0, 1 << 25 | 1 << 31), -1);
    }
}
