/** The TEXTS of promises 4, 5 and 6: what is right, and every FAULT with its place. */
public final class TextsTest {
    private static final Due DUE = new Due();

    public static void main(String[] args) {
        clocks();
        clocksOfASmallDial();
        book();
        lawSigns();
        lawDepth();
        lawLength();
        aFaultChangesNothing();
        DUE.end("TextsTest");
    }

    private static void clock(String text, int want) {
        DUE.is("clocks " + text, Due.clocks(new HandsAlike(), text), want);
    }

    private static void booked(String text, int want) {
        DUE.is("book " + text, Due.book(new HandsAlike(), text), want);
    }

    private static void ruled(String text, int want) {
        DUE.is("law " + text, Due.law(new HandsAlike(), text), want);
    }

    private static void clocks() {
        clock("a@0", 1);
        clock("h@719-99", 1);
        clock("a@0;b@0;c@0;d@0;e@0;f@0;g@0;h@0", 8);
        clock("a@0719+1", 1);
        clock("a@0-0", 1);
        clock("i@0", -1000);
        clock("A@0", -1000);
        clock("`@0", -1000);
        clock("@0", -1000);
        clock(";a@0", -1000);
        clock("a", -1001);
        clock("a0", -1001);
        clock("a@", -1002);
        clock("a@;", -1002);
        clock("a@-1", -1002);
        clock("a@1 ", -1003);
        clock(" a@1", -1000);
        clock("a@1:", -1003);
        clock("a@1/", -1003);
        clock("a@12345", -2006);
        clock("a@99999", -2006);
        clock("a@0000", 1);
        clock("a@00000", -2006);
        clock("a@720", -3002);
        clock("a@9999", -3002);
        clock("a@720x", -3002);
        clock("a@720+x", -3002);
        clock("a@0;b@720;x", -3006);
        clock("a@1+", -1004);
        clock("a@1+-", -1004);
        clock("a@1+1+", -1005);
        clock("a@1+123", -2006);
        clock("a@1-00", 1);
        clock("a@1-000", -2006);
        clock("a@1;", -1004);
        clock("a@1;;", -1004);
        clock("a@1;a", -6004);
        clock("a@1;a@2", -6004);
        clock("a@1;b@2;axx", -6008);
        clock("a@0;b@0;c@0;d@0;e@0;f@0;g@0;h@0;", -1032);
        clock("a@0;b@0;c@0;d@0;e@0;f@0;g@0;h@0;e@0", -6032);
        clock("a@0;b@0;c@0;d@0;e@0;f@0;g@0;h@0;i@0", -1032);
        clock("a@1" + (char) 255, -1003);
        clock((char) 225 + "@1", -1000);
        HandsAlike cut = new HandsAlike();
        Due.feed(cut, Due.bytes("a@1;b@2;c@3;d@444444"));
        DUE.is("only the first n bytes", cut.clocks(7), 2);
    }

    private static void clocksOfASmallDial() {
        HandsAlike town = new HandsAlike();
        town.dial(4, 2);
        DUE.is("7 is a TIME", Due.clocks(town, "a@7"), 1);
        DUE.is("8 is none", Due.clocks(town, "a@7;b@0008"), -3006);
        DUE.is("8 is none in a book", Due.book(town, "ab@8:1"), -3003);
        town.dial(60, 24);
        DUE.is("1439 is a TIME", Due.clocks(town, "a@1439"), 1);
        DUE.is("1440 is none", Due.clocks(town, "a@1440"), -3002);
        DUE.is("1439 in a book", Due.book(town, "ab@1439:1"), 1);
        DUE.is("1440 in a book", Due.book(town, "ab@1440:1"), -3003);
    }

    private static void book() {
        booked("ab@0:0", 1);
        booked("ha@719:99", 1);
        booked("ab@0:0;ab@0:0", 2);
        booked("ab@0000:00", 1);
        booked("ib@0:0", -1000);
        booked("ai@0:0", -1001);
        booked("a@0:0", -1001);
        booked("a", -1001);
        booked("aa@0:0", -6001);
        booked("aa", -6001);
        booked("ab", -1002);
        booked("abc", -1002);
        booked("ab@", -1003);
        booked("ab@:0", -1003);
        booked("ab@0", -1004);
        booked("ab@0;", -1004);
        booked("ab@00000:0", -2007);
        booked("ab@720:0", -3003);
        booked("ab@720", -3003);
        booked("ab@720x", -3003);
        booked("ab@99999", -2007);
        booked("ab@0:", -1005);
        booked("ab@0:;", -1005);
        booked("ab@0:000", -2007);
        booked("ab@0:0:", -1006);
        booked("ab@0:0;", -1007);
        booked("ab@0:0; ", -1007);
        StringBuilder many = new StringBuilder("ab@0:0");
        for (int i = 1; i < 16; i++) {
            many.append(";bc@").append(i).append(":1");
        }
        booked(many.toString(), 16);
        booked(many + ";", -1000 - many.length() - 1);
        booked(many + ";x", -1000 - many.length() - 1);
        booked(many + ";h", -4000 - many.length() - 1);
        booked(many + ";aa", -4000 - many.length() - 1);
    }

    private static void lawSigns() {
        ruled("x(1=1)", 1);
        ruled("g1(1=1);l2(1=1);s3(1=1);x(1=1)", 4);
        ruled("g[c+a]*v/k%n-o+t*w(c=1|a<2&!v>3|(k=1))", 1);
        ruled("y(1=1)", -1000);
        ruled("(1=1)", -1000);
        ruled("x", -1001);
        ruled("x1(1=1)", -1001);
        ruled("x()", -1002);
        ruled("x(1)", -1003);
        ruled("x(1=)", -1004);
        ruled("x(1=1", -1005);
        ruled("x(1=1]", -1005);
        ruled("x(1=1=1)", -1005);
        ruled("x(1=1))", -1006);
        ruled("x(1=1) ", -1006);
        ruled("x(1=1)x", -1006);
        ruled("x(1=1);", -1007);
        ruled("x(1=1);;", -1007);
        ruled("x(1=1&)", -1006);
        ruled("x(1=1|)", -1006);
        ruled("x(&1=1)", -1002);
        ruled("x((1=1)", -1007);
        ruled("x((1=1)=1)", -1007);
        ruled("x((1)=1)", -1004);
        ruled("x(!)", -1003);
        ruled("x(!1)", -1004);
        ruled("x(1!1=1)", -1003);
        ruled("x([1=1])", -1004);
        ruled("x([1]=1)", 1);
        ruled("x([1)=1)", -1004);
        ruled("x(1==1)", -1004);
        ruled("x(-1=1)", -1002);
        ruled("x(x=1)", -1002);
        ruled("x(g=1)", -1002);
        ruled("x(cc=1)", -1003);
        ruled("x(c1=1)", -1003);
        ruled("x(1c=1)", -1003);
        ruled("g(1=1)", -1001);
        ruled("g1", -1002);
        ruled("g1;", -1002);
        ruled("g1]", -1002);
        ruled("g1<2(1=1)", -1002);
        ruled("g+1(1=1)", -1001);
        ruled("g1+(1=1)", -1003);
        ruled("g1**2(1=1)", -1003);
        ruled("g[](1=1)", -1002);
        ruled("g[1(1=1)", -1003);
        ruled("g!1(1=1)", -1001);
        ruled("g99999(1=1)", 1);
        ruled("g000000(1=1)", -2006);
        ruled("x(1=123456)", -2009);
        ruled("x(1=1" + (char) 200 + ")", -1005);
        ruled("G1(1=1)", -1000);
    }

    private static void lawDepth() {
        ruled("g[[[[[[1]]]]]](1=1)", 1);
        ruled("g[[[[[[[1]]]]]]](1=1)", -5007);
        ruled("g[[[[[[1]]]]]]+[[[[[[[", -5021);
        ruled("x((((((1=1))))))", 1);
        ruled("x(((((((1=1)))))))", -5007);
        ruled("x(!!!!!1=1)", 1);
        ruled("x(!!!!!!1=1)", -5007);
        ruled("x(!!!!!(1=1))", -5007);
        ruled("x(!!!!![1]=1)", -5007);
        ruled("x(!!!!1=[1])", 1);
        ruled("x(!!!!1=[[", -5009);
        ruled("x(!!!!!1=1&!!!!!1=1)", 1);
        ruled("x(!!!!!1=1|(((((1=1))))))", 1);
        ruled("x(!(!(!1=1)))", 1);
        ruled("x(!(!(!(1=1))))", -5007);
        ruled("x([[[[[1]]]]]=1)", 1);
        ruled("x([[[[[[1]]]]]]=1)", -5007);
        ruled("x((((((1=[", -5009);
        ruled("x((((((1=1)&1=1)", -1000 - 16);
        ruled("x(!!!!!1=1&!!!!!!", -5016);
        ruled("x(!!!!1=1&[[[[[1]]]]]=1)", 1);
        ruled("g[[[[[[1[", -1008);
        ruled("x((((((1(", -1008);
    }

    private static void lawLength() {
        StringBuilder many = new StringBuilder("x(1=1)");
        for (int i = 1; i < 16; i++) {
            many.append(";g1(2=2)");
        }
        ruled(many.toString(), 16);
        ruled(many + ";", -1000 - many.length() - 1);
        ruled(many + ";y", -1000 - many.length() - 1);
        ruled(many + ";s", -4000 - many.length() - 1);
        ruled(many + ";x(1=1)", -4000 - many.length() - 1);
        StringBuilder sum = new StringBuilder("s1");
        while (sum.length() < 234) {
            sum.append("+1");
        }
        sum.append("(1=01)");
        HandsAlike town = new HandsAlike();
        DUE.is("240 bytes", sum.length(), 240);
        DUE.is("a long sum", Due.law(town, sum.toString()), 1);
        Due.clocks(town, "a@200");
        DUE.is("its value", town.tried(1, 10), 200 - 117);
        StringBuilder tests = new StringBuilder("x(1=1");
        while (tests.length() < 236) {
            tests.append(tests.length() % 8 == 1 ? "|2=3" : "&1=1");
        }
        tests.append(")");
        DUE.is("many tests", Due.law(town, tests.toString()), 1);
        DUE.is("they hold", town.tried(1, 0), 1);
    }

    private static void aFaultChangesNothing() {
        HandsAlike town = new HandsAlike();
        Due.clocks(town, "a@100");
        Due.law(town, "s7(1=1);s8(1=1)");
        DUE.is("a fault", Due.law(town, "s9(1=1);s1(1=1);s2(1=1);y"), -1024);
        DUE.is("as many RULES as before", town.count(5), 2);
        DUE.is("the RULES of before", town.tried(1, 10), 93);
        DUE.is("new ones", Due.law(town, "s9(1=1)"), 1);
        DUE.is("in place of those", town.tried(1, 10), 91);
        DUE.is("one RULE", town.count(5), 1);
        Due.book(town, "ab@5:6;cd@7:8");
        DUE.is("a fault of a book", Due.book(town, "ef@1:2;gh@3:4;ab@5:66;x"), -1022);
        DUE.is("the BOOK of before", town.appointment(1, 2), 7);
        DUE.is("as many as before", town.count(2), 2);
        DUE.is("a fault of clocks", Due.clocks(town, "b@5;c@6+7;x"), -1010);
        DUE.is("the CLOCKS of before", town.count(1), 1);
        DUE.is("the CLOCK of before", town.clockIs(0, 0), 100);
    }
}
