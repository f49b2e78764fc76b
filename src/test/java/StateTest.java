import java.util.NoSuchElementException;

/** Promises 6 to 14: what is told, where all is, what the laws say. */
final class StateTest {
    private static final Due DUE = new Due("StateTest");
    private static final long ERROR = Long.MIN_VALUE;

    public static void main(String[] args) {
        people();
        peopleThatAreNot();
        sortsAndDeeds();
        sendings();
        wants();
        parts();
        deedsThatOneCan();
        namesInLaws();
        lawsAboard();
        values();
        errors();
        DUE.end();
    }

    private static void people() {
        PartsFerry x = DUE.ferry("man a 20;man b 999;sort s 3 5;sort t 2 4;deed d 1;deed e 2;send a s 0;send b s 0;"
                + "want a d 1 1 30;want a e 1 1 3;want b d 0 0 1;want a d 0 1 9;storm 100;");
        DUE.is("pence", x.man(0, 0), 20);
        DUE.is("nothing away", x.man(0, 1), 0);
        DUE.is("all own", x.man(0, 2), 3);
        DUE.is("none met", x.man(0, 3), 0);
        DUE.is("none missed", x.man(0, 4), 0);
        x.go(2);
        DUE.is("pence then", x.man(0, 0), 20 - 5 + 30);
        DUE.is("pence of the other one", x.man(1, 0), 999 + 1 - 5);
        DUE.is("s is away", x.man(0, 1), 1);
        DUE.is("t is the own one still", x.man(0, 2), 2);
        DUE.is("met", x.man(0, 3), 1);
        DUE.is("missed", x.man(0, 4), 2);
        DUE.is("met by the other one", x.man(1, 3), 1);
        DUE.is("missed by the other one", x.man(1, 4), 0);
    }

    private static void peopleThatAreNot() {
        PartsFerry x = DUE.ferry("man a 20;");
        int[][] calls = {{-1, 0, 1}, {1, 0, 1}, {5, 0, 1}, {Integer.MIN_VALUE, 9, 1}, {1, 9, 1}, {0, 5, 2}, {0, -1, 2},
            {0, Integer.MAX_VALUE, 2}, {0, 4, 0}};
        for (int[] call : calls) {
            int thrown = 0;
            try {
                x.man(call[0], call[1]);
            } catch (IndexOutOfBoundsException e) {
                thrown = e.getClass() == IndexOutOfBoundsException.class ? 1 : 3;
            } catch (NoSuchElementException e) {
                thrown = 2;
            }
            DUE.is("man(" + call[0] + ", " + call[1] + ") throws", thrown, call[2]);
        }
    }

    private static void sortsAndDeeds() {
        PartsFerry x = DUE.ferry("sort s 3 5;sort t 9 99;deed d 0;deed e 31;deed f 4;");
        DUE.is("size", x.sort(0, 0), 3);
        DUE.is("rate", x.sort(0, 1), 5);
        DUE.is("size of t", x.sort(1, 0), 9);
        DUE.is("rate of t", x.sort(1, 1), 99);
        DUE.is("what 2", x.sort(0, 2), -1);
        DUE.is("what -1", x.sort(0, -1), -1);
        DUE.is("sort 2", x.sort(2, 0), -1);
        DUE.is("sort -1", x.sort(-1, 0), -1);
        DUE.is("deed 0", x.deed(0), 0);
        DUE.is("deed 1", x.deed(1), 31);
        DUE.is("deed 2", x.deed(2), 4);
        DUE.is("deed 3", x.deed(3), -1);
        DUE.is("deed -1", x.deed(-1), -1);
    }

    private static void sendings() {
        PartsFerry x = DUE.ferry("man a 20;man b 20;sort s 3 5;sort t 2 4;send b t 7;send a s 0;");
        int[] row = {1, 1, 7, 0};
        for (int what = 0; what < 4; what++) {
            DUE.is("sending(0, " + what + ")", x.sending(0, what), row[what]);
        }
        DUE.is("sending(1, 1)", x.sending(1, 1), 0);
        DUE.is("what 4", x.sending(0, 4), -1);
        DUE.is("what -1", x.sending(0, -1), -1);
        DUE.is("sending 2", x.sending(2, 0), -1);
        DUE.is("sending -1", x.sending(-1, 0), -1);
        x.take(0);
        x.go(1);
        DUE.is("taken back", x.sending(0, 3), 2);
        DUE.is("gone", x.sending(1, 3), 1);
        x.send(0, 1, 9999);
        DUE.is("one put by call", x.sending(2, 2), 9999);
    }

    private static void wants() {
        PartsFerry x = DUE.ferry("man a 20;man b 20;sort s 3 5;deed d 0;deed e 1;want b e 0 1 8;want a e 1 1 9;want a d 1 3 7;");
        int[] row = {1, 1, 0, 1, 8, 0};
        for (int what = 0; what < 6; what++) {
            DUE.is("want(0, " + what + ")", x.want(0, what), row[what]);
        }
        DUE.is("what 6", x.want(0, 6), -1);
        DUE.is("what -1", x.want(0, -1), -1);
        DUE.is("want 3", x.want(3, 0), -1);
        DUE.is("want -1", x.want(-1, 0), -1);
        x.go(2);
        DUE.is("met", x.want(0, 5), 1);
        DUE.is("missed", x.want(1, 5), 2);
        DUE.is("not yet", x.want(2, 5), 0);
        DUE.is("the port", x.want(1, 2), 1);
    }

    private static void parts() {
        PartsFerry x = DUE.ferry("man a 20;man b 20;sort s 3 5;sort t 2 4;send b t 0;");
        DUE.is("holds", x.holds(1, 1), 1);
        DUE.is("port", x.port(1, 1), 0);
        x.swap(0, 1, 1);
        DUE.is("holds another's", x.holds(1, 1), 0);
        DUE.is("and the other way round", x.holds(0, 1), 1);
        DUE.is("not of the other sort", x.holds(0, 0), 0);
        x.go(1);
        DUE.is("what b holds is sent", x.port(1, 1), 1);
        DUE.is("what a holds stays", x.port(0, 1), 0);
        int[][] wrong = {{-1, 0}, {2, 0}, {0, -1}, {0, 2}, {5, 5}, {0, Integer.MIN_VALUE}};
        for (int[] ask : wrong) {
            DUE.is("holds of none", x.holds(ask[0], ask[1]), -1);
            DUE.is("port of none", x.port(ask[0], ask[1]), -1);
        }
    }

    private static void deedsThatOneCan() {
        PartsFerry x = DUE.ferry("man a 20;sort s 3 5;sort t 2 4;deed d 0;deed e 1;deed f 3;deed g 28;send a s 0;");
        x.go(1);
        int[][] due = {{1, 1}, {0, 1}, {0, 0}, {1, 1}};
        for (int deed = 0; deed < 4; deed++) {
            DUE.is("can(0, " + deed + ", 0)", x.can(0, deed, 0), due[deed][0]);
            DUE.is("can(0, " + deed + ", 1)", x.can(0, deed, 1), due[deed][1]);
        }
        DUE.is("port 2", x.can(0, 0, 2), -1);
        DUE.is("port -1", x.can(0, 0, -1), -1);
        DUE.is("deed 4", x.can(0, 4, 0), -1);
        DUE.is("deed -1", x.can(0, -1, 0), -1);
        DUE.is("nobody", x.can(1, 0, 0), -1);
        DUE.is("nobody", x.can(-1, 0, 0), -1);
    }

    /** Behind three days a has paid 9 and has s and t at port 1, b has paid 1 and has u there. */
    private static final String PLACE = "man a 20;man b 300;sort s 3 5;sort t 2 4;sort u 1 1;deed d 0;want b d 0 50 77;"
            + "send a s 0;send a t 0;send b u 0;";

    private static long told(String rule, String e, int what, int man, int which) {
        PartsFerry x = DUE.ferry(PLACE + "law " + rule + " " + e + ";");
        x.go(3);
        return x.law(what, man, which);
    }

    private static void namesInLaws() {
        String[] names = {"size", "rate", "pence", "aboard", "away", "worth", "day"};
        long[] gain = {0, 0, 299, 0, 1, 77, 3};
        long[] gainOfAnother = {0, 0, 11, 0, 2, 77, 3};
        long[] mix = {2, 4, 0, 0, 0, 0, 3};
        for (int i = 0; i < 7; i++) {
            DUE.is("gain " + names[i], told("gain", names[i], 1, 1, 0), gain[i]);
            DUE.is("gain of a, " + names[i], told("gain", names[i], 1, 0, 0), gainOfAnother[i]);
            DUE.is("mix " + names[i], told("mix", names[i], 2, -9, 1), mix[i]);
        }
        // the factor keeps what is paid alike, whatever the name is
        long[] fare = {2, 4, 11, 0, 2, 0, 3};
        for (int i = 0; i < 7; i++) {
            String onceRate = "rate*(day=0)+" + names[i] + "*(day>0)";
            DUE.is("fare " + names[i], told("fare", onceRate, 0, 0, 1), fare[i]);
        }
        DUE.is("fare of b", told("fare", "rate*(day=0)+pence*(day>0)+away*1000", 0, 1, 0), 1299);
        DUE.is("no law of gain", told("fare", "1", 1, 0, 0), ERROR);
        DUE.is("no law of mix", told("gain", "1", 2, 0, 0), ERROR);
        DUE.is("no law of fare", told("mix", "1", 0, 0, 0), ERROR);
        wrongLaws();
    }

    private static void wrongLaws() {
        PartsFerry x = DUE.ferry(PLACE + "law fare 1;law gain 2;law mix 3;");
        DUE.is("fare", x.law(0, 1, 2), 1);
        DUE.is("gain", x.law(1, 1, 0), 2);
        DUE.is("mix", x.law(2, 99, 2), 3);
        int[][] wrong = {{-1, 0, 0}, {3, 0, 0}, {0, 2, 0}, {0, -1, 0}, {0, 0, 3}, {0, 0, -1}, {1, 2, 0}, {1, -1, 0},
            {1, 0, 1}, {1, 0, -1}, {2, 0, 3}, {2, 0, -1}};
        for (int[] ask : wrong) {
            DUE.is("law(" + ask[0] + ", " + ask[1] + ", " + ask[2] + ")", x.law(ask[0], ask[1], ask[2]), ERROR);
        }
    }

    /** What names are while parts go aboard shows in what is paid and mixed. */
    private static void lawsAboard() {
        PartsFerry x = DUE.ferry("man a 100;man b 100;sort s 1 0;sort t 1 0;send a s 0;send b s 0;send a t 0;"
                + "law fare 10*aboard+away;");
        x.go(1);
        DUE.is("a pays 0 and 20", x.man(0, 0), 80);
        DUE.is("b pays 10", x.man(1, 0), 90);
        x = DUE.ferry("man a 9;man b 9;sort s 1 0;sort t 1 0;send a s 0;send b s 0;send a t 0;send b t 0;storm 100;"
                + "law mix aboard=4 and away=2 and rate=0 and size=1 and pence=0 and worth=0 and day=0;");
        x.go(1);
        DUE.is("both sorts are mixed", x.count(11), 4);
        x = DUE.ferry("man a 9;man b 9;sort s 1 0;sort t 2 0;send a s 0;send b s 0;send a t 0;send b t 0;storm 100;"
                + "law mix size=2;");
        x.go(1);
        DUE.is("t alone is mixed", x.man(0, 2), 1);
    }

    private static long value(String e) {
        return DUE.ferry("man a 1;sort s 1 1;law fare " + e + ";").law(0, 0, 0);
    }

    private static void values() {
        Object[][] due = {{"1+2*3", 7}, {"(1+2)*3", 9}, {"9-3-2", 4}, {"7/2", 3}, {"(0-7)/2", -3}, {"7/(0-2)", -3},
            {"24/4/3", 2}, {"24/4*3", 18}, {"2<3", 1}, {"3<2", 0}, {"2<2", 0}, {"2<=2", 1}, {"3<=2", 0}, {"2=2", 1},
            {"2=3", 0}, {"2<>3", 1}, {"2<>2", 0}, {"3>=3", 1}, {"2>=3", 0}, {"3>2", 1}, {"2>2", 0}, {"5 and 7", 1},
            {"5 and 0", 0}, {"0 or 7", 1}, {"0 or 0", 0}, {"not 5", 0}, {"not 0", 1}, {"not not 5", 1},
            {"1 or 1 and 0", 1}, {"(1 or 1) and 0", 0}, {"not 1<0", 1}, {"not 0 and 0", 0}, {"not (0 and 0)", 1},
            {"1+1=2", 1}, {"2*3>5", 1}, {"0-1 and 1", 1}, {"1<2 and 2<3 or 0", 1}, {"5-2<1+1", 0}, {"0-5", -5},
            {"1 or 0 or 0", 1}, {"3-(2-1)", 2}, {"2*(3+4)*5", 70}, {"00012", 12}};
        for (Object[] row : due) {
            DUE.is("law fare " + row[0], value((String) row[0]), (Integer) row[1]);
        }
    }

    private static void errors() {
        DUE.is("/ by 0", value("1/0"), ERROR);
        DUE.is("both sides are worked out", value("0 and 1/0"), ERROR);
        DUE.is("both sides are worked out", value("1 or 1/0"), ERROR);
        DUE.is("0 times", value("0*(1/0)"), ERROR);
        DUE.is("10 to the 12", value("1000*1000*1000*1000"), 1000000000000L);
        DUE.is("one more", value("1000*1000*1000*1000+1"), ERROR);
        DUE.is("on the way", value("1000*1000*1000*1000+1-1"), ERROR);
        DUE.is("below 0", value("0-1000*1000*1000*1000"), -1000000000000L);
        DUE.is("one less", value("0-1000*1000*1000*1000-1"), ERROR);
        DUE.is("beyond a long", value("1000*1000*1000*1000*(1000*1000*1000*1000)"), ERROR);
        DUE.is("that wraps to 0", value("(4096*4096*4096)*(4096*4096*4096)"), ERROR);
        DUE.is("below 0, beyond a long", value("(0-1000*1000*1000*1000)*(1000*1000*1000)"), ERROR);
        DUE.is("0 times much", value("0*(1000*1000*1000*1000)"), 0);
        DUE.is("much times 0", value("1000*1000*1000*1000*0"), 0);
        DUE.is("two negative ones", value("(0-1000*1000)*(0-1000*1000)"), 1000000000000L);
        PartsFerry x = DUE.ferry("man a 50;sort s 1 7;deed d 0;want a d 0 0 9;send a s 0;law fare 1/0;law gain 1/0;");
        x.go(1);
        DUE.is("worth and rate with errors", x.man(0, 0), 50 + 9 - 7);
        x = DUE.ferry("man a 50;sort s 1 7;deed d 0;want a d 0 0 9;send a s 0;law fare 0-5;law gain 0-5;");
        x.go(1);
        DUE.is("0 at least", x.man(0, 0), 50);
        x = DUE.ferry("man a 50;sort s 1 7;deed d 0;want a d 0 0 9;send a s 0;law fare 3000;law gain 3000;");
        DUE.is("the law itself may be more", x.law(0, 0, 0), 3000);
        DUE.is("a gain of 999 at most, and a fare", x.ahead(1, 3, 0), 50 + 999 - 999);
        x = DUE.ferry("man a 999;sort s 1 7;send a s 0;law fare 1000;");
        x.go(1);
        DUE.is("a fare of 999 at most", x.man(0, 0), 0);
        x = DUE.ferry("man a 5;deed d 0;want a d 0 0 9;law gain 1000;");
        x.go(1);
        DUE.is("a gain of 999 at most", x.man(0, 0), 5 + 999);
        x = DUE.ferry("man a 9;man b 9;sort s 1 0;send a s 0;send b s 0;storm 100;law mix 1/0;");
        x.go(1);
        DUE.is("mixed with an error", x.count(11), 2);
    }
}
