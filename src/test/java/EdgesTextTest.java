/** The boundary cases of promises 6 to 8, a test for each sentence that names one. */
public final class EdgesTextTest {
    private static final int BAD = Edge.BAD, FULL = Edge.FULL;
    private static final String PLAIN = "holds 1;fades 1;costs 1;";

    public static void main(String[] args) {
        feedBounds();
        feedFull();
        textNumbers();
        textFull();
        textFaultLeaves();
        textEndsTooEarly();
        textWholeTape();
        textEveryByte();
        textBlanks();
        textWords();
        textDigits();
        textOrder();
        textOperators();
        textOpenAlike();
        textOpenMixed();
        textOpenEnds();
        textOpenMinus();
        valueTruth();
        valueWraps();
        valueNames();
        valueHigh();
        valuePaid();
        forceBounds();
        forceFull();
        Check.end("EdgesTextTest");
    }

    private static void due(String sentence, long got, long want) {
        Edge.due(sentence, got, want);
    }

    // ---- promise 6: feed

    private static void feedBounds() {
        Edge.bounds("6 a byte", 0, 255, BAD, (x, v) -> x.feed(v));
        MightHaveBeenPutUp x = Edge.fresh();
        due("6 how many it has", x.feed(0), 1);
        due("6 how many it has", x.feed(255), 2);
        due("6 a wrong one doesn't come", x.feed(256), BAD);
        due("6 how many it has", x.feed(32), 3);
    }

    private static void feedFull() {
        MightHaveBeenPutUp x = Edge.fresh();
        for (int i = 1; i <= 160; i++) {
            due("6 160 bytes at most", x.feed(32), i);
        }
        due("6 no byte more", x.feed(32), FULL);
        due("6 160 stay", x.count(4), 160);
        Edge.refused("6 FULL", Scene::fullTape, y -> y.feed('x'), FULL);
        Edge.refused("6 FULL, byte 0", Scene::fullTape, y -> y.feed(0), FULL);
        Edge.refused("6 FULL, byte 255", Scene::fullTape, y -> y.feed(255), FULL);
        Edge.refused("6 BAD ahead of FULL", Scene::fullTape, y -> y.feed(256), BAD);
        Edge.refused("6 BAD ahead of FULL", Scene::fullTape, y -> y.feed(-1), BAD);
        x.text();
        due("6 room again", x.feed(32), 1);
    }

    // ---- promise 7: text

    /** What text() answers of this on a new object; THE TAPE is empty then. */
    private static void answers(String text, int want) {
        MightHaveBeenPutUp x = Edge.fresh();
        due("7 text " + text, Check.text(x, text), want);
        due("7 THE TAPE, which is empty then: " + text, x.count(4), 0);
        due("7 TEXTS then: " + text, x.count(3), want == 1 ? 2 : 1);
        due("7 THE RULE stays: " + text, x.count(5), 0);
    }

    private static void reads(String text) {
        answers(text, 1);
    }

    private static void fault(String text, int place) {
        answers(text, -100 - place);
    }

    /** As an expression at each of the three places. */
    private static void readsOne(String expression) {
        reads("holds " + expression + ";fades 1;costs 1;");
        reads("holds 1;fades " + expression + ";costs 1;");
        reads("holds 1;fades 1;costs " + expression + ";");
    }

    private static void faultOne(String expression, int place) {
        fault("holds " + expression + ";fades 1;costs 1;", 6 + place);
        fault("holds 1;fades " + expression + ";costs 1;", 14 + place);
        fault("holds 1;fades 1;costs " + expression + ";", 22 + place);
    }

    private static void textNumbers() {
        MightHaveBeenPutUp x = Edge.fresh();
        for (int text = 1; text < 6; text++) {
            due("7 its number", Check.text(x, PLAIN), text);
            due("7 TEXTS, TEXT 0 with them", x.count(3), text + 1);
        }
        due("7 6 TEXTS at most", Check.text(x, PLAIN), FULL);
        due("7 six stay", x.count(3), 6);
    }

    private static void textFull() {
        Edge.refused("7 FULL, THE TAPE stays", Scene::fullOfTexts, x -> x.text(), FULL);
        MightHaveBeenPutUp x = Scene.fullOfTexts();
        x.text();
        due("7 FULL, and again", x.text(), FULL);
        due("7 THE TAPE stays", x.count(4), 24);
        due("7 and takes bytes", x.feed(' '), 25);
        for (int text = 0; text < 6; text++) {
            due("7 all of them can be forced", x.force(text), text == 0 ? 1 : text - 1);
        }
        MightHaveBeenPutUp y = Edge.fresh();
        for (int text = 1; text < 6; text++) {
            Check.text(y, PLAIN);
        }
        due("7 FULL with an empty TAPE", y.text(), FULL);
        x.back();
        due("7 TEXTS don't go with back()", x.text(), FULL);
    }

    private static void textFaultLeaves() {
        MightHaveBeenPutUp x = Scene.make();
        x.feed('?');
        due("7 a FAULT", x.text(), -124);
        due("7 THE TAPE is empty then", x.count(4), 0);
        due("7 no TEXT more", x.count(3), Scene.TEXTS);
        due("7 THE RULE stays", x.count(5), 1);
        due("7 the next one is read from its own begin", Check.text(x, PLAIN), 2);
        String[] cut = {"holds (((((", "holds -----", "holds not not not not not ", "holds (((((1", "holds ((((((1"};
        for (String text : cut) {
            MightHaveBeenPutUp y = Edge.fresh();
            due("7 a FAULT while five are open: " + text, Check.text(y, text) < -100 ? 1 : 0, 1);
            due("7 none is open in the next", Check.text(y, "holds (((((1)))));fades 1;costs 1;"), 1);
        }
    }

    /** At each end of what is fed: the text's size, but the place of a WORD that is cut. */
    private static void textEndsTooEarly() {
        String all = "holds firm ; fades not 2<year ; costs ( parts ) ;";
        for (int size = 0; size < all.length(); size++) {
            int place = size;
            if (size > 0 && isLetter(all.charAt(size - 1)) && isLetter(all.charAt(size))) {
                place = size - 1;
                while (place > 0 && isLetter(all.charAt(place - 1))) {
                    place--;
                }
            }
            fault(all.substring(0, size), place);
        }
        reads(all);
        fault("holds 1;fades 1;costs 1 \n ", 26);
        fault("\n", 1);
        fault(" ".repeat(160), 160);
    }

    private static boolean isLetter(char letter) {
        return letter >= 'a' && letter <= 'z';
    }

    private static void textWholeTape() {
        String body = "holds 1;fades 1;costs 1";
        String long159 = body + "+1".repeat(67) + " ;";
        due("the test's own size", long159.length(), 159);
        reads(long159);
        reads(long159 + " ");
        reads(body + " ".repeat(136) + ";");
        reads(body + "+1".repeat(68) + ";");
        fault(body + "+1".repeat(68) + "+", 160);
        fault(body + "+1".repeat(68) + "?", 159);
        fault(body + "+1".repeat(67) + "+1 ", 160);
        fault(body + "+".repeat(137), 24);
        reads("holds " + "1*".repeat(60) + "1;fades 1;costs 1;");
        reads("holds 1" + " or 1".repeat(26) + ";fades 1;costs 1;");
        reads("holds 1" + " and 1".repeat(22) + ";fades 1;costs 1;");
        fault("holds " + "a".repeat(154), 6);
        fault("holds " + "1".repeat(154), 6);
        fault("a".repeat(160), 0);
        MightHaveBeenPutUp x = Edge.fresh();
        x.regret(0, 0, 0);
        x.force(Check.text(x, body + "+1".repeat(68) + ";"));
        due("7 all of it counts", x.told(0, 6), 69);
    }

    /** Every byte ahead of all, behind the first number, and behind all. */
    private static void textEveryByte() {
        for (int b = 0; b < 256; b++) {
            String letter = "" + (char) b;
            boolean blank = b == 32 || b == 10;
            boolean digit = b >= '0' && b <= '9';
            boolean joins = ";+-*<=".indexOf(b) >= 0;
            answers(letter + PLAIN, blank ? 1 : -100);
            answers("holds 1" + letter + ";fades 1;costs 1;", blank || digit ? 1 : joins ? -108 : -107);
            answers(PLAIN + letter, blank ? 1 : -124);
        }
    }

    private static void textBlanks() {
        reads("\n holds\n1\n;\nfades 1 ; costs\n\n1  ;\n");
        reads("holds1;fades1;costs1;");
        reads("holds(firm)and(year);fades-1;costs 1;");
        readsOne("1or 1");
        readsOne("not(1)");
        faultOne("fi rm", 0);
        faultOne("1 0", 2);
        faultOne("or1", 0);
        fault("hol ds 1;fades 1;costs 1;", 0);
        fault("holds\t1;fades 1;costs 1;", 5);
        fault("holds 1;fades 1;costs 1;\r\n", 24);
    }

    private static void textWords() {
        String[] names = {"firm", "number", "year", "parts", "high", "paid"};
        for (String name : names) {
            readsOne(name);
            faultOne(name + "s", 0);
            faultOne("a" + name, 0);
            faultOne(name.substring(1), 0);
            faultOne(name.substring(0, name.length() - 1), 0);
            faultOne("1+" + name + name, 2);
            faultOne(name + "1", name.length());
            faultOne("1" + name, 1);
            faultOne(name.toUpperCase(), 0);
        }
        String[] keys = {"holds", "fades", "costs", "or", "and"};
        for (String key : keys) {
            faultOne(key, 0);
            faultOne("1 + " + key, 4);
        }
        String[] all = {"firm", "number", "year", "parts", "high", "paid", "holds", "fades", "costs", "not"};
        for (String word : all) {
            for (int i = 0; i < word.length(); i++) {
                String other = word.charAt(i) == 'z' ? "a" : "z";
                faultOne(word.substring(0, i) + other + word.substring(i + 1), 0);
                faultOne(word.substring(0, i) + other + word.substring(i), 0);
            }
            faultOne(word + "z", 0);
            faultOne(word + "a", 0);
        }
        fault("holdz 1;fades 1;costs 1;", 0);
        fault("zolds 1;fades 1;costs 1;", 0);
        fault("holdsz 1;fades 1;costs 1;", 0);
        fault("holds 1;aades 1;costs 1;", 8);
        fault("holds 1;fades 1;zosts 1;", 16);
        faultOne("1 ar 1", 2);
        faultOne("1 ond 1", 2);
        faultOne("1 zr 1", 2);
        faultOne("1 znd 1", 2);
        faultOne("1 o 1", 2);
        faultOne("1 andz 1", 2);
        faultOne("not", 3);
        faultOne("nothing", 0);
        faultOne("nots 1", 0);
        faultOne("1 orr 1", 2);
        faultOne("1 an 1", 2);
        faultOne("1 xor 1", 2);
        faultOne("1 holds 1", 2);
        faultOne("z", 0);
        faultOne("zzzzzzz", 0);
    }

    private static void textDigits() {
        readsOne("9999");
        readsOne("0000");
        readsOne("0");
        faultOne("10000", 0);
        faultOne("00000", 0);
        faultOne("00001", 0);
        faultOne("99999999999", 0);
        faultOne("4294967297", 0);
        faultOne("1+10000", 2);
        faultOne("(12345)", 1);
        readsOne("1234+5678");
        faultOne("1234 5678", 5);
        faultOne("1 12345", 2);
    }

    private static void textOrder() {
        fault("fades 1;holds 1;costs 1;", 0);
        fault("holds 1;costs 1;fades 1;", 8);
        fault("holds 1;holds 1;costs 1;", 8);
        fault("holds 1;fades 1;fades 1;", 16);
        fault("holds 1;fades 1;costs 1;costs 1;", 24);
        fault("holds 1;fades 1;costs 1;;", 24);
        fault("holds 1 fades 1;costs 1;", 8);
        fault("holds ;fades 1;costs 1;", 6);
        fault("holds 1;fades ;costs 1;", 14);
        fault("holds 1;fades 1;costs ;", 22);
        fault(";", 0);
        fault("1", 0);
        // the first of two faults
        fault("holds );fades ?;costs 12345;", 6);
        fault("holds 1;fades ?;costs 12345;", 14);
        fault("holds 12345 ?", 6);
    }

    private static void textOperators() {
        String[] joins = {"+", "-", "*", "<", "=", " or ", " and "};
        for (String join : joins) {
            int size = join.length();
            int sign = join.trim().length() == 1 ? 0 : 1;
            readsOne("1" + join + "1");
            faultOne("1" + join, 1 + size);
            faultOne("1" + join + ")", 1 + size);
            if (!join.equals("-")) {
                faultOne(join + "1", sign);
                faultOne("1" + join + join + "1", 1 + size + sign);
            }
        }
        readsOne("-1");
        readsOne("1--1");
        readsOne("1<1 and 1<1");
        readsOne("1<1 or 1=1");
        faultOne("1<1<1", 3);
        faultOne("1<1=1", 3);
        faultOne("1=1<1", 3);
        faultOne("1=1=1", 3);
        readsOne("(1<1)<1");
        readsOne("1=(1=1)");
        faultOne("1<not 1", 2);
        faultOne("1+not 1", 2);
        faultOne("1*not 1", 2);
        faultOne("- not 1", 2);
        readsOne("-(not 1)");
        readsOne("1<(not 1)");
        readsOne("not 1<1");
        readsOne("not not 1");
        readsOne("1 and not 1");
        readsOne("1 or not 1");
        faultOne("()", 1);
        faultOne("(1", 2);
        faultOne("1)", 1);
        faultOne("(1))", 3);
        faultOne("((1)", 4);
        faultOne("(1)(1)", 3);
        faultOne("1(1)", 1);
        faultOne("firm firm", 5);
        faultOne("(1;)", 2);
    }

    private static void textOpenAlike() {
        readsOne("(((((1)))))");
        faultOne("((((((1))))))", 5);
        readsOne("((((1))))");
        readsOne("-----1");
        faultOne("------1", 5);
        readsOne("----1");
        readsOne("not not not not not 1");
        faultOne("not not not not not not 1", 20);
        readsOne("not not not not 1");
        faultOne("((((((", 5);
        faultOne("-------", 5);
        faultOne("not not not not not not not", 20);
        // five are open, and it ends too early: no sixth is asked
        faultOne("(((((", 5);
        faultOne("-----", 5);
    }

    private static void textOpenMixed() {
        readsOne("not(-(-1))");
        readsOne("not(-((1)))");
        faultOne("not(-(-(1)))", 7);
        faultOne("not(-(--1))", 7);
        readsOne("not not(--1)");
        faultOne("not not(---1)", 10);
        readsOne("not(not(not 1))");
        faultOne("not(not(not(1)))", 11);
        faultOne("not(not(not-1))", 11);
        faultOne("not(not(not not 1))", 12);
        readsOne("(-(-(1)))");
        faultOne("(-(-(-1)))", 5);
        faultOne("(((((not 1)))))", 5);
        faultOne("(((((-1)))))", 5);
        faultOne("not not not not not(1)", 19);
        faultOne("not not not not not-1", 19);
    }

    private static void textOpenEnds() {
        readsOne("(((((1)))))+(((((1)))))");
        readsOne("(((((1)+(1)))))");
        faultOne("(((((1)+((1)))))", 9);
        readsOne("(1)+(1)+(1)+(1)+(1)+(1)+(1)");
        readsOne("-1*-1*-1*-1*-1*-1*-1");
        readsOne("-----1*(1)");
        readsOne("-----1+-----1");
        readsOne("-----1<-----1");
        readsOne("not not not not not 1 and not not not not not 1");
        readsOne("not not not not not 1 or(((((1)))))");
        faultOne("not not not not not 1=(1)", 22);
        faultOne("not not not not not 1=-1", 22);
        faultOne("not not not not not 1+-1", 22);
        faultOne("not not not not not 1*(1)", 22);
        readsOne("not not not not 1=(1)");
        readsOne("not not not not 1=-1");
        readsOne("((((-1+-1*-1<-1 or not 1 and(1)))))");
        faultOne("((((-1+-1*-1<--1 or not 1 and(1)))))", 14);
        faultOne("((((-1+-1*-1<-1 or not(1) and(1)))))", 22);
        reads("holds (((((1)))));fades -----1;costs not not not not not 1;");
    }

    private static void textOpenMinus() {
        readsOne("1-1-1-1-1-1-1-1-1");
        readsOne("1-----1");
        readsOne("1------1");
        faultOne("1-------1", 7);
        readsOne("(((((1-1-1)))))");
        faultOne("(((((1--1)))))", 7);
        readsOne("((((1--1))))");
        faultOne("((((1---1))))", 7);
    }

    // ---- promise 7: what an E is

    /** COSTS of a REGRET (0 .. 999), NUMBER 7, FIRM 42, YEAR 999, with CELLS 9, 17, 25. */
    private static void value(String expression, int want) {
        MightHaveBeenPutUp x = Edge.fresh();
        x.regret(0, 7, 42);
        x.raise(0, 4, 9);
        x.set(0, 0, 999);
        Edge.rule(x, "1", "1", expression);
        due("7 value of " + expression, x.told(0, 6), want);
    }

    private static void valueTruth() {
        String[] trues = {"1", "2", "-1", "9999", "8192*8192*32", "8192*8192*32-1"};
        for (String t : trues) {
            value(t + " or 0", 1);
            value("0 or " + t, 1);
            value(t + " and 1", 1);
            value("1 and " + t, 1);
            value(t + " and 0", 0);
            value("not(" + t + ")", 0);
            value("not not(" + t + ")", 1);
        }
        value("0 or 0", 0);
        value("0 and 0", 0);
        value("not 0", 1);
        value("8192*8192*64 or 0", 0);
        value("6<7", 1);
        value("7<7", 0);
        value("8<7", 0);
        value("6=7", 0);
        value("7=7", 1);
        value("-7=7", 0);
        value("-1<0", 1);
        value("-8<-7", 1);
        value("-7<-8", 0);
        value("0 and 1 or 1", 1);
        value("1 or 1 and 0", 1);
        value("(1 or 1) and 0", 0);
        value("not 0 and 0", 0);
        value("not 0 or 1", 1);
        value("not 2 = 2", 0);
        value("not 1 < 2", 0);
        value("(not 1) < 2", 1);
        value("(1 or 1) + (1 and 1) + (not 0) + (1<2) + (2=2)", 5);
    }

    private static void valueWraps() {
        value("8192*8192*32<0", 1);
        value("8192*8192*32-1<0", 0);
        value("8192*8192*31+8192*8191+8191<0", 0);
        value("8192*8192*31+8192*8191+8192<0", 1);
        value("8192*8192*64", 0);
        value("8192*8192*64+5", 5);
        value("-(8192*8192*32)<0", 1);
        value("-(8192*8192*32)=8192*8192*32", 1);
        value("8192*8192*32<8192*8192*32-1", 1);
        value("8192*8192*32-1<8192*8192*32", 0);
        value("0-8192*8192*32=8192*8192*32", 1);
        value("2*3+4*5-6", 20);
        value("100-10-1", 89);
        value("100-(10-1)", 91);
        value("2-3*-4", 14);
        value("-2*-3", 6);
        value("--5", 5);
        value("-----5+10", 5);
        value("2+3<6", 1);
        value("0012", 12);
        value("999", 999);
        value("1000", 999);
        value("1000-1", 999);
        value("1000-2", 998);
        value("-1", 0);
    }

    private static void valueNames() {
        value("firm", 42);
        value("number", 7);
        value("year", 999);
        value("parts", 3);
        value("high", 3);
        value("paid", 0);
        MightHaveBeenPutUp x = Edge.fresh();
        x.regret(0, 0, 0);
        Edge.rule(x, "1", "1", "firm+number+year+parts+high+paid");
        due("7 all names at their least", x.told(0, 6), 0);
        MightHaveBeenPutUp y = Edge.fresh();
        y.regret(0, 0, 0);
        y.regret(0, 9, 99);
        Edge.rule(y, "1", "1", "firm+number");
        due("7 of one", y.told(0, 6), 0);
        due("7 of the other, at their most", y.told(1, 6), 108);
    }

    private static void valueHigh() {
        MightHaveBeenPutUp x = Edge.fresh();
        x.regret(5, 0, 0);
        x.regret(0, 0, 0);
        Edge.rule(x, "high", "parts", "1");
        due("7 high, none: 0", x.told(1, 4), 0);
        due("7 parts, none: 0", x.told(1, 5), 0);
        x.raise(1, 0, 15);
        due("7 high at CELL 15", x.told(1, 4), 1);
        x.raise(1, 0, 23);
        due("7 high at CELL 23", x.told(1, 4), 2);
        x.raise(0, 4, 8);
        x.raise(0, 4, 32);
        x.raise(0, 0, 56);
        due("7 high is its own", x.told(1, 4), 2);
        x.raise(1, 0, 57);
        due("7 high, the highest ROW", x.told(1, 4), 7);
        due("7 parts, its own", x.told(1, 5), 3);
        x.fell(57);
        due("7 high, as all is then", x.told(1, 4), 2);
        MightHaveBeenPutUp y = Edge.house(8);
        y.regret(0, 0, 0);
        Edge.rule(y, "high", "parts", "1");
        y.raise(0, 0, 0);
        due("7 high in ROW 0", y.told(0, 4), 0);
        due("7 parts there", y.told(0, 5), 1);
        MightHaveBeenPutUp z = Edge.allHouseBut();
        z.regret(0, 0, 0);
        for (int cell = 1; cell < 64; cell++) {
            z.set(3, cell, 0);
        }
        for (int cell = 1; cell < 64; cell++) {
            z.raise(0, 0, cell);
        }
        Edge.rule(z, "high", "parts", "1");
        due("7 parts at most", z.told(0, 5), 63);
        due("7 high of all", z.told(0, 4), 7);
    }

    private static void valuePaid() {
        MightHaveBeenPutUp x = Edge.fresh();
        x.regret(0, 0, 99);
        Edge.rule(x, "paid", "0", "99*(year=0)+(0<year)*(year<3)+98*(year=3)+900*(year=4)");
        int[] total = {0, 99, 100, 101, 199, 1099};
        int[] holds = {0, 64, 0, 1, 64, 64};
        for (int year = 0; year < total.length; year++) {
            due("7 PAID in YEAR " + year, x.count(2), total[year]);
            due("7 PAID modulo 100 in YEAR " + year, x.told(0, 4), holds[year]);
            x.year();
        }
        MightHaveBeenPutUp y = Edge.fresh();
        y.regret(0, 0, 99);
        Edge.rule(y, "0", "paid", "50*(year<2)+99*(year=2)");
        int[] fades = {0, 50, 0, 99};
        for (int year = 0; year < fades.length; year++) {
            due("7 paid in YEAR " + year, y.told(0, 5), fades[year]);
            y.year();
        }
    }

    // ---- promise 8: force

    private static void forceBounds() {
        Edge.bounds("8 a TEXT", 0, Scene.TEXTS - 1, BAD, (x, v) -> x.force(v));
        MightHaveBeenPutUp x = Edge.fresh();
        due("8 TEXT 0 alone", x.force(1), BAD);
        due("8 which was", x.force(0), 0);
        Check.text(x, "holds 7;fades 0;costs 0;?");
        due("8 a text with a FAULT is none", x.force(1), BAD);
        Check.text(x, "holds 7;fades 0;costs 0;");
        due("8 a TEXT isn't THE RULE by itself", x.count(5), 0);
        due("8 which was", x.force(1), 0);
        due("8 which was", x.force(1), 1);
        due("8 refused", x.force(2), BAD);
        due("8 THE RULE stays", x.count(5), 1);
        due("8 back to TEXT 0", x.force(0), 1);
    }

    private static void forceFull() {
        MightHaveBeenPutUp x = Edge.fresh();
        x.regret(0, 0, 50);
        for (int text = 1; text < 6; text++) {
            Check.text(x, "holds " + text + ";fades 0;costs 0;");
        }
        int[] forced = {5, 1, 4, 0, 3, 2};
        int was = 0;
        for (int text : forced) {
            due("8 which was", x.force(text), was);
            due("8 by TEXT " + text, x.told(0, 4), text == 0 ? 50 : text);
            was = text;
        }
        due("8 no seventh", x.force(6), BAD);
        due("8 THE RULE stays", x.told(0, 4), 2);
    }
}
