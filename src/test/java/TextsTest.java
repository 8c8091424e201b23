/** The TEXTS of promises 4, 5 and 6: what is right, and every FAULT with its place. */
public final class TextsTest {
    private static final Due DUE = new Due();

    public static void main(String[] args) {
        clocks();
        clocksOfASmallDial();
        book();
        lawSigns();
        lawDepth();
        lawLength();
        aFaultChangesNothing();
        numbersOfBytes();
        theLongestTexts();
        theFirstFromTheLeft();
        DUE.end("TextsTest");
    }

    private static void clock(String text, int want) {
        DUE.is("clocks " + text, Due.clocks(new HandsAlike(), text), want);
    }

    private static void booked(String text, int want) {
        DUE.is("book " + text, Due.book(new HandsAlike(), text), want);
    }

    private static void ruled(String text, int want) {
        DUE.is("law " + text, Due.law(new HandsAlike(), text), want);
    }

    private static void clocks() {
        clock("a@0", 1);
        clock("h@719-99", 1);
        clock("a@0;b@0;c@0;d@0;e@0;f@0;g@0;h@0", 8);
        clock("a@0719+1", 1);
        clock("a@0-0", 1);
        clock("i@0", -1000);
        clock("A@0", -1000);
        clock("`@0", -1000);
        clock("@0", -1000);
        clock(";a@0", -1000);
        clock("a", -1001);
        clock("a0", -1001);
        clock("a@", -1002);
        clock("a@;", -1002);
        clock("a@-1", -1002);
        clock("a@1 ", -1003);
        clock(" a@1", -1000);
        clock("a@1:", -1003);
        clock("a@1/", -1003);
        clock("a@12345", -2006);
        clock("a@99999", -2006);
        clock("a@0000", 1);
        clock("a@00000", -2006);
        clock("a@720", -3002);
        clock("a@9999", -3002);
        clock("a@720x", -3002);
        clock("a@720+x", -3002);
        clock("a@0;b@720;x", -3006);
        clock("a@1+", -1004);
        clock("a@1+-", -1004);
        clock("a@1+1+", -1005);
        clock("a@1+123", -2006);
        clock("a@1-00", 1);
        clock("a@1-000", -2006);
        clock("a@1;", -1004);
        clock("a@1;;", -1004);
        clock("a@1;a", -6004);
        clock("a@1;a@2", -6004);
        clock("a@1;b@2;axx", -6008);
        clock("a@0;b@0;c@0;d@0;e@0;f@0;g@0;h@0;", -1032);
        clock("a@0;b@0;c@0;d@0;e@0;f@0;g@0;h@0;e@0", -6032);
        clock("a@0;b@0;c@0;d@0;e@0;f@0;g@0;h@0;i@0", -1032);
        clock("a@1" + (char) 255, -1003);
        clock((char) 225 + "@1", -1000);
        HandsAlike cut = new HandsAlike();
        Due.feed(cut, Due.bytes("a@1;b@2;c@3;d@444444"));
        DUE.is("only the first n bytes", cut.clocks(7), 2);
    }

    private static void clocksOfASmallDial() {
        HandsAlike town = new HandsAlike();
        town.dial(4, 2);
        DUE.is("7 is a TIME", Due.clocks(town, "a@7"), 1);
        DUE.is("8 is none", Due.clocks(town, "a@7;b@0008"), -3006);
        DUE.is("8 is none in a book", Due.book(town, "ab@8:1"), -3003);
        town.dial(60, 24);
        DUE.is("1439 is a TIME", Due.clocks(town, "a@1439"), 1);
        DUE.is("1440 is none", Due.clocks(town, "a@1440"), -3002);
        DUE.is("1439 in a book", Due.book(town, "ab@1439:1"), 1);
        DUE.is("1440 in a book", Due.book(town, "ab@1440:1"), -3003);
    }

    private static void book() {
        booked("ab@0:0", 1);
        booked("ha@719:99", 1);
        booked("ab@0:0;ab@0:0", 2);
        booked("ab@0000:00", 1);
        booked("ib@0:0", -1000);
        booked("ai@0:0", -1001);
        booked("a@0:0", -1001);
        booked("a", -1001);
        booked("aa@0:0", -6001);
        booked("aa", -6001);
        booked("ab", -1002);
        booked("abc", -1002);
        booked("ab@", -1003);
        booked("ab@:0", -1003);
        booked("ab@0", -1004);
        booked("ab@0;", -1004);
        booked("ab@00000:0", -2007);
        booked("ab@720:0", -3003);
        booked("ab@720", -3003);
        booked("ab@720x", -3003);
        booked("ab@99999", -2007);
        booked("ab@0:", -1005);
        booked("ab@0:;", -1005);
        booked("ab@0:000", -2007);
        booked("ab@0:0:", -1006);
        booked("ab@0:0;", -1007);
        booked("ab@0:0; ", -1007);
        StringBuilder many = new StringBuilder("ab@0:0");
        for (int i = 1; i < 16; i++) {
            many.append(";bc@").append(i).append(":1");
        }
        booked(many.toString(), 16);
        booked(many + ";", -1000 - many.length() - 1);
        booked(many + ";x", -1000 - many.length() - 1);
        booked(many + ";h", -4000 - many.length() - 1);
        booked(many + ";aa", -4000 - many.length() - 1);
    }

    private static void lawSigns() {
        ruled("x(1=1)", 1);
        ruled("g1(1=1);l2(1=1);s3(1=1);x(1=1)", 4);
        ruled("g[c+a]*v/k%n-o+t*w(c=1|a<2&!v>3|(k=1))", 1);
        ruled("y(1=1)", -1000);
        ruled("(1=1)", -1000);
        ruled("x", -1001);
        ruled("x1(1=1)", -1001);
        ruled("x()", -1002);
        ruled("x(1)", -1003);
        ruled("x(1=)", -1004);
        ruled("x(1=1", -1005);
        ruled("x(1=1]", -1005);
        ruled("x(1=1=1)", -1005);
        ruled("x(1=1))", -1006);
        ruled("x(1=1) ", -1006);
        ruled("x(1=1)x", -1006);
        ruled("x(1=1);", -1007);
        ruled("x(1=1);;", -1007);
        ruled("x(1=1&)", -1006);
        ruled("x(1=1|)", -1006);
        ruled("x(&1=1)", -1002);
        ruled("x((1=1)", -1007);
        ruled("x((1=1)=1)", -1007);
        ruled("x((1)=1)", -1004);
        ruled("x(!)", -1003);
        ruled("x(!1)", -1004);
        ruled("x(1!1=1)", -1003);
        ruled("x([1=1])", -1004);
        ruled("x([1]=1)", 1);
        ruled("x([1)=1)", -1004);
        ruled("x(1==1)", -1004);
        ruled("x(-1=1)", -1002);
        ruled("x(x=1)", -1002);
        ruled("x(g=1)", -1002);
        ruled("x(cc=1)", -1003);
        ruled("x(c1=1)", -1003);
        ruled("x(1c=1)", -1003);
        ruled("g(1=1)", -1001);
        ruled("g1", -1002);
        ruled("g1;", -1002);
        ruled("g1]", -1002);
        ruled("g1<2(1=1)", -1002);
        ruled("g+1(1=1)", -1001);
        ruled("g1+(1=1)", -1003);
        ruled("g1**2(1=1)", -1003);
        ruled("g[](1=1)", -1002);
        ruled("g[1(1=1)", -1003);
        ruled("g!1(1=1)", -1001);
        ruled("g99999(1=1)", 1);
        ruled("g000000(1=1)", -2006);
        ruled("x(1=123456)", -2009);
        ruled("x(1=1" + (char) 200 + ")", -1005);
        ruled("G1(1=1)", -1000);
    }

    private static void lawDepth() {
        ruled("g[[[[[[1]]]]]](1=1)", 1);
        ruled("g[[[[[[[1]]]]]]](1=1)", -5007);
        ruled("g[[[[[[1]]]]]]+[[[[[[[", -5021);
        ruled("x((((((1=1))))))", 1);
        ruled("x(((((((1=1)))))))", -5007);
        ruled("x(!!!!!1=1)", 1);
        ruled("x(!!!!!!1=1)", -5007);
        ruled("x(!!!!!(1=1))", -5007);
        ruled("x(!!!!![1]=1)", -5007);
        ruled("x(!!!!1=[1])", 1);
        ruled("x(!!!!1=[[", -5009);
        ruled("x(!!!!!1=1&!!!!!1=1)", 1);
        ruled("x(!!!!!1=1|(((((1=1))))))", 1);
        ruled("x(!(!(!1=1)))", 1);
        ruled("x(!(!(!(1=1))))", -5007);
        ruled("x([[[[[1]]]]]=1)", 1);
        ruled("x([[[[[[1]]]]]]=1)", -5007);
        ruled("x((((((1=[", -5009);
        ruled("x((((((1=1)&1=1)", -1000 - 16);
        ruled("x(!!!!!1=1&!!!!!!", -5016);
        ruled("x(!!!!1=1&[[[[[1]]]]]=1)", 1);
        ruled("g[[[[[[1[", -1008);
        ruled("x((((((1(", -1008);
    }

    private static void lawLength() {
        StringBuilder many = new StringBuilder("x(1=1)");
        for (int i = 1; i < 16; i++) {
            many.append(";g1(2=2)");
        }
        ruled(many.toString(), 16);
        ruled(many + ";", -1000 - many.length() - 1);
        ruled(many + ";y", -1000 - many.length() - 1);
        ruled(many + ";s", -4000 - many.length() - 1);
        ruled(many + ";x(1=1)", -4000 - many.length() - 1);
        StringBuilder sum = new StringBuilder("s1");
        while (sum.length() < 234) {
            sum.append("+1");
        }
        sum.append("(1=01)");
        HandsAlike town = new HandsAlike();
        DUE.is("240 bytes", sum.length(), 240);
        DUE.is("a long sum", Due.law(town, sum.toString()), 1);
        Due.clocks(town, "a@200");
        DUE.is("its value", town.tried(1, 10), 200 - 117);
        StringBuilder tests = new StringBuilder("x(1=1");
        while (tests.length() < 236) {
            tests.append(tests.length() % 8 == 1 ? "|2=3" : "&1=1");
        }
        tests.append(")");
        DUE.is("many tests", Due.law(town, tests.toString()), 1);
        DUE.is("they hold", town.tried(1, 0), 1);
    }

    private static void aFaultChangesNothing() {
        HandsAlike town = new HandsAlike();
        Due.clocks(town, "a@100");
        Due.law(town, "s7(1=1);s8(1=1)");
        DUE.is("a fault", Due.law(town, "s9(1=1);s1(1=1);s2(1=1);y"), -1024);
        DUE.is("as many RULES as before", town.count(5), 2);
        DUE.is("the RULES of before", town.tried(1, 10), 93);
        DUE.is("new ones", Due.law(town, "s9(1=1)"), 1);
        DUE.is("in place of those", town.tried(1, 10), 91);
        DUE.is("one RULE", town.count(5), 1);
        Due.book(town, "ab@5:6;cd@7:8");
        DUE.is("a fault of a book", Due.book(town, "ef@1:2;gh@3:4;ab@5:66;x"), -1022);
        DUE.is("the BOOK of before", town.appointment(1, 2), 7);
        DUE.is("as many as before", town.count(2), 2);
        DUE.is("a fault of clocks", Due.clocks(town, "b@5;c@6+7;x"), -1010);
        DUE.is("the CLOCKS of before", town.count(1), 1);
        DUE.is("the CLOCK of before", town.clockIs(0, 0), 100);
    }

    /** n of promises 4, 5 and 6: too small, too large, more than there are. */
    private static void numbersOfBytes() {
        int[] never = {Integer.MIN_VALUE, -1, 0, 241, 260, 261, Integer.MAX_VALUE};
        HandsAlike town = new HandsAlike();
        Due.feed(town, new int[260]);
        for (int n : never) {
            DUE.is("law " + n, town.law(n), -1);
            DUE.is("clocks " + n, town.clocks(n), -1);
            DUE.is("book " + n, town.book(n), -1);
        }
        DUE.is("clocks 121", town.clocks(121), -1);
        DUE.is("book 161", town.book(161), -1);
        DUE.is("the tape stays", town.count(6), 260);
        DUE.is("law 240 of 260", town.law(240), -1000);
        DUE.is("all of it is empty then", town.count(6), 0);
        Due.feed(town, new int[260]);
        DUE.is("clocks 120 of 260", town.clocks(120), -1000);
        DUE.is("all of it is empty then", town.count(6), 0);
        Due.feed(town, new int[260]);
        DUE.is("book 160 of 260", town.book(160), -1000);
        DUE.is("all of it is empty then", town.count(6), 0);
        DUE.is("law of an empty tape", town.law(1), -1);
        DUE.is("clocks of an empty tape", town.clocks(1), -1);
        DUE.is("book of an empty tape", town.book(1), -1);
        Due.feed(town, Due.bytes("a@719;b@0;c@00-00;d@"));
        DUE.is("law of 21 of 20", town.law(21), -1);
        DUE.is("clocks of 21 of 20", town.clocks(21), -1);
        DUE.is("book of 21 of 20", town.book(21), -1);
        DUE.is("the end can't stand there", town.clocks(20), -1020);
        Due.feed(town, Due.bytes("a@719;b@0;c@00-00;d@"));
        DUE.is("the first n bytes alone", town.clocks(17), 3);
        DUE.is("what is behind them goes, too", town.count(6), 0);
        String[] ones = {"x", "g", "l", "s"};
        for (String one : ones) {
            ruled(one, -1001);
        }
        ruled(";", -1000);
        clock("h", -1001);
        booked("h", -1001);
    }

    private static String digitsOf(int length) {
        StringBuilder e = new StringBuilder("1");
        while (e.length() < length) {
            e.append(e.length() + 1 < length ? "+1" : "1");
        }
        return e.toString();
    }

    private static void theLongestTexts() {
        HandsAlike town = new HandsAlike();
        StringBuilder book = new StringBuilder("ab@0719:99");
        for (int i = 1; i < 14; i++) {
            book.append(";ab@0719:99");
        }
        book.append(";gh@5:7");
        DUE.is("160 bytes", book.length(), 160);
        DUE.is("a BOOK of 160 bytes", Due.book(town, book.toString()), 15);
        DUE.is("its last byte", town.appointment(14, 3), 7);
        Due.feed(town, Due.bytes(book + "7"));
        DUE.is("a BOOK of 161 bytes", town.book(161), -1);
        DUE.is("but of its first 160", town.book(160), 15);
        String law = "s" + digitsOf(233) + "(1=1)";
        DUE.is("239 bytes", law.length(), 239);
        DUE.is("a LAW of 239 bytes", Due.law(town, law), 1);
        law = "s" + digitsOf(233) + "(1=1);";
        DUE.is("a LAW that ends with a ;", Due.law(town, law), -1240);
        law = "s" + digitsOf(234) + "(1=1)";
        DUE.is("a LAW of 240 bytes", Due.law(town, law), 1);
        Due.feed(town, Due.bytes(law + ";"));
        DUE.is("a LAW of 241 bytes", town.law(241), -1);
        DUE.is("but of its first 240", town.law(240), 1);
        StringBuilder clocks = new StringBuilder("a@0719+99");
        for (char c = 'b'; c <= 'h'; c++) {
            clocks.append(';').append(c).append("@0719-99");
        }
        DUE.is("no right text of CLOCKS is longer", Due.clocks(town, clocks.toString()), 8);
        DUE.is("its last number", town.clockIs(7, 1), -99);
        StringBuilder tooLong = new StringBuilder(clocks);
        while (tooLong.length() < 120) {
            tooLong.append('x');
        }
        DUE.is("CLOCKS of 120 bytes", Due.clocks(town, tooLong.toString()), -1000 - clocks.length());
        Due.feed(town, Due.bytes(tooLong + "x"));
        DUE.is("CLOCKS of 121 bytes", town.clocks(121), -1);
    }

    /** Of several FAULTS the first from the left; FAULT 3 is asked when the number ends. */
    private static void theFirstFromTheLeft() {
        clock("a@720;a@1", -3002);
        clock("a@1;a@720", -6004);
        clock("a@1+111;a@1", -2006);
        clock("a@10000", -2006);
        clock("a@7200+111", -3002);
        clock("a@72000+111", -2006);
        booked("aa@720:111", -6001);
        booked("ab@720:111", -3003);
        booked("ab@7200;", -3003);
        booked("ab@72000:1", -2007);
        booked("ab@1:111;aa", -2007);
        booked("ab@1:11;aa@72000", -6009);
        booked("ai@720:1", -1001);
        ruled("x(111111=[[[[[[[1", -2007);
        ruled("x(1=[[[[[[[111111", -5009);
        ruled("g111111y", -2006);
        ruled("gy111111", -1001);
        StringBuilder many = new StringBuilder("x(1=1)");
        for (int i = 1; i < 16; i++) {
            many.append(";x(1=1)");
        }
        ruled(many + ";g111111", -4000 - many.length() - 1);
        ruled(many + "g", -1000 - many.length());
        ruled(many.toString().replace("x(1=1);x(1=1);x", "x(1=1);x(1=1;x") + ";g", -1000 - 12);
    }
}
