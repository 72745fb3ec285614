/** Promise 8, and how much a card counts: which texts are laws, where others are at fault, what they give. */
public final class LawTest {
    private static final Sentences doc = new Sentences();
    /** Two to the 31st by a text: as an int it wraps to the least. */
    private static final String LEAST = "4096*4096*128";

    public static void main(String[] args) {
        law();
        tapeIsEmptyThen();
        faultLeavesNothing();
        faultKeepsTheOldLaw();
        tapeAtMost();
        lines();
        guards();
        oneComparison();
        sumsAndProducts();
        operands();
        blanks();
        names();
        sixOpen();
        intsWrap();
        divisions();
        truths();
        allIsWorkedOut();
        firstLineThatCounts();
        faultAtAByte();
        faultAtTheEnd();
        heldWithin();
        forOthersNothing();
        withoutAText();
        doc.end(8, 8);
    }

    private static void text(String text, int want) {
        CardUnsigned x = new CardUnsigned();
        Given.feed(x, text);
        doc.due(x, "law()", want);
        doc.due(x, "count(2)", 0);
    }

    /** The second one likes the first, both know; the second card, to the first one, shows the second one's hand and has a stamp. */
    private static CardUnsigned office() {
        CardUnsigned x = Given.office(2);
        x.mend(1, 4, 1);
        x.mend(1, 3, 7);
        x.mend(1, 5, 4);
        x.mend(0, 5, 4);
        x.card(0, 0);
        x.card(50, 321);
        return x;
    }

    /** What the second card counts for the second one by a text. */
    private static void value(String text, int want) {
        CardUnsigned x = office();
        Given.feed(x, text);
        doc.due(x, "law()", 1);
        doc.due(x, "counts(11)", want);
    }

    private static void law() {
        doc.sentence(8, "THE TAPE becomes THE LAW: 1; -100 less its FAULT");
        text("1", 1);
        text("l*50+h", 1);
        text("", -100);
        text("x", -100);
        text("1x", -101);
    }

    private static void tapeIsEmptyThen() {
        doc.sentence(8, "THE TAPE is empty then.");
        CardUnsigned x = office();
        Given.feed(x, "4");
        doc.due(x, "law()", 1);
        doc.due(x, "count(2)", 0);
        doc.due(x, "law()", -100);
        doc.due(x, "feed(50)", 1);
        doc.due(x, "feed(120)", 2);
        doc.due(x, "law()", -101);
        doc.due(x, "count(2)", 0);
        doc.due(x, "feed(57)", 1);
        doc.due(x, "law()", 1);
        doc.due(x, "counts(11)", 9);
    }

    /** A text is read alike whatever was at fault ahead of it. */
    private static void faultLeavesNothing() {
        doc.sentence(8, "-100 less its FAULT; THE TAPE is empty then.");
        String[] faults = {"((((((", "((1", "-(-(-(", "!!!!!!", "1?2x", "1?2?", "1?", "1<2<", "1<", "12x", "12345", "1+2*(3-"};
        String[] texts = {"((((((1))))))", "1)", "((1)", "!!!!!!1", "1?2", "1?2?", "1<2", "123", "3", "1"};
        int[] due = {1, -101, -104, 1, 1, -103, 1, 1, 1, 1};
        CardUnsigned x = new CardUnsigned();
        for (String fault : faults) {
            for (int i = 0; i < texts.length; i++) {
                Given.law(x, fault);
                Given.feed(x, texts[i]);
                doc.due(x, "law()", due[i]);
            }
        }
    }

    private static void faultKeepsTheOldLaw() {
        doc.sentence(8, "-100 less its FAULT");
        CardUnsigned x = office();
        for (String text : new String[] {"", "43+", "43;", "(43", "43 ", "1234567"}) {
            Given.feed(x, "42");
            doc.due(x, "law()", 1);
            Given.feed(x, text);
            doc.due(x, "law()", -100 - Math.min(text.length(), text.equals("43 ") ? 2 : 4));
            doc.due(x, "counts(11)", 42);
        }
        CardUnsigned y = office();
        Given.feed(y, "1+");
        doc.due(y, "law()", -102);
        doc.due(y, "counts(11)", 50);
    }

    private static void tapeAtMost() {
        doc.sentence(0, "THE LAW is a TEXT by THE TAPE (at most 120 bytes)");
        StringBuilder ones = new StringBuilder("11");
        while (ones.length() < 120) {
            ones.append("+1");
        }
        value(ones.toString(), 70);
        value("!" + ones.substring(1), 59);
        value("-" + ones.substring(1), 58);
        StringBuilder guards = new StringBuilder();
        while (guards.length() < 116) {
            guards.append("0?1;");
        }
        value(guards + "0|77", 1);
        CardUnsigned x = office();
        Given.feed(x, ones.toString());
        doc.due(x, "feed(120)", -3);
        doc.due(x, "law()", 1);
        doc.due(x, "feed(120)", 1);
        ones.setCharAt(119, '+');
        text(ones.toString(), -219);
        ones.setCharAt(119, '(');
        text(ones.toString(), -220);
    }

    private static void lines() {
        doc.sentence(0, "LINES, one or more, parted by ;");
        text("", -100);
        text(";", -100);
        text(";1", -100);
        text("1;", -102);
        text("1;;1", -102);
        text("1;2", 1);
        text("1;2;", -104);
        text("(1;2)", -102);
        StringBuilder lines = new StringBuilder("1");
        while (lines.length() < 119) {
            lines.append(";1");
        }
        text(lines.toString(), 1);
        text(lines + ";", -220);
    }

    private static void guards() {
        doc.sentence(0, "LINE: E, or E ? E (what counts if the first is not 0).");
        text("1?2", 1);
        text("?1", -100);
        text("?", -100);
        text("1?", -102);
        text("1??2", -102);
        text("1?2?3", -103);
        text("1?2;3?4", 1);
        text("1?2;3?4?5", -107);
        text("(1?2)", -102);
        value("2?5;6", 5);
        value("-1?5;6", 5);
        value("0?5;6", 6);
        value("1<2?2<3;9", 1);
    }

    private static void oneComparison() {
        doc.sentence(0, "E = A { | A }. A = B { & B }. B = S, or S < S, S = S, S > S.");
        text("1<2<3", -103);
        text("1<2=3", -103);
        text("1>2>3", -103);
        text("1=2+3>4", -105);
        text("1<2*-3=4", -106);
        text("1<2&2<3|3<4", 1);
        text("(1<2)<3", 1);
        text("1<(2<3)", 1);
        text("1<2?2<3;3<4", 1);
        text("1||2", -102);
        text("1&&2", -102);
        text("1==2", -102);
        text("1<=2", -102);
        value("1|1&0", 1);
        value("(1|1)&0", 0);
        value("0&1|1", 1);
        value("0&(1|1)", 0);
        value("5&2=2", 1);
        value("1+2=3", 1);
        value("3=1+2", 1);
        value("2<1+2", 1);
    }

    private static void sumsAndProducts() {
        doc.sentence(0, "S = P { + P, - P }. P = O { * O, / O, % O }.");
        text("+1", -100);
        text("*1", -100);
        text("1++2", -102);
        text("1**2", -102);
        text("1*/2", -102);
        text("1--2", 1);
        text("1*-2", 1);
        value("1+2*3", 7);
        value("2*3+1", 7);
        value("(1+2)*3", 9);
        value("20-5-3", 12);
        value("20-(5-3)", 18);
        value("100/7/2", 7);
        value("100%7*3", 6);
        value("7*100%30", 10);
        value("9-2*3+1", 4);
    }

    private static void operands() {
        doc.sentence(0, "O = a number (1 to 4 digits), a NAME, ! O, - O, ( E ).");
        value("0", 0);
        value("0007", 7);
        value("9999-9989", 10);
        text("0000", 1);
        text("9999", 1);
        text("00000", -104);
        text("12345", -104);
        text("1+12345", -106);
        text("!12345", -105);
        text("1l", -101);
        text("l1", -101);
        text("lh", -101);
        text("l!", -101);
        text("1(2)", -101);
        text("(1)2", -103);
        text("(1)(2)", -103);
        text("()", -101);
        text("!", -101);
        text("-", -101);
        text("(1)", 1);
        text("1)", -101);
        text("(1))", -103);
        value("!l", 0);
        value("-3*-4", 12);
        value("--9", 9);
        value("!-1", 0);
        value("-!0+9", 8);
        value("!0*5", 5);
        value("!(0*5)", 1);
        value("-12+50", 38);
        value("!12+!0", 1);
    }

    private static void blanks() {
        doc.sentence(0, "No blanks.");
        text(" ", -100);
        text(" 1", -100);
        text("1 ", -101);
        text("1 +2", -101);
        text("1+ 2", -102);
        text("1\n;2", -101);
        text("1\t", -101);
    }

    private static void names() {
        doc.sentence(0, "NAMES: l 1 if one LIKES whom the CARD is TO, else 0, h 2 if SHOWN is its HAND, 1 if none is SHOWN, "
            + "0 if another one is, s SHY, k how many KNOW the SECRET (none: 0), m STAMP, c the CARD.");
        for (String other : new String[] {"a", "L", "H", "i", "r", "t", "z", "~", "\u0000", "\u007f", "\u00ff"}) {
            text(other, -100);
            text("1+" + other, -102);
        }
        value("l", 1);
        value("h", 2);
        value("s", 7);
        value("k", 2);
        value("m", 1);
        value("c", 1);
        CardUnsigned x = office();
        Given.law(x, "l*32+h*16+s*2+k*4+m*8+c+1");
        doc.due(x, "counts(1)", 32 + 16 + 14 + 1);
        x.mend(1, 4, 254);
        doc.due(x, "counts(1)", 16 + 14 + 1);
        x.mend(0, 7, 0);
        doc.due(x, "counts(1)", 14 + 1);
        x.mend(0, 8, 2);
        doc.due(x, "counts(1)", 8 + 14 + 1);
    }

    private static void sixOpen() {
        doc.sentence(0, "At most 6 of ( ! - ahead of an O are open at once.");
        text("!!!!!!1", 1);
        text("!!!!!!!1", -106);
        text("------1", 1);
        text("-------1", -106);
        text("((((((1))))))", 1);
        text("(((((((1)))))))", -106);
        text("((((((1)))))", -112);
        text("!-(!-(1))", 1);
        text("!-(!-(!1))", -106);
        text("!-(!-(-1))", -106);
        text("!-(!-((1)))", -106);
        text("1-------1", 1);
        text("1--------1", -108);
        text("((((((1))))))+((((((1))))))", 1);
        text("!!!!!!1*!!!!!!1", 1);
        text("(((((!1+!1)))))", 1);
        text("((((((1+1*1)-1)-1)-1)-1)-1)", 1);
        text("((((((1)-(1))))))", 1);
        text("((((((1)-((1)))))))", -110);
        text("(!!!!!1+!!!!!1)", 1);
        text("(!!!!!1+!!!!!!1)", -113);
        value("!!!!!!5", 1);
        value("-(-(--5))", 5);
    }

    private static void intsWrap() {
        doc.sentence(0, "Ints that wrap");
        value(LEAST + "<0", 1);
        value(LEAST + "-1>0", 1);
        value("-(" + LEAST + ")<0", 1);
        value("-(" + LEAST + ")=" + LEAST, 1);
        value(LEAST + "*2", 0);
        value("9999*9999*9999>0", 9999 * 9999 * 9999 > 0 ? 1 : 0);
        value("9999*9999*9999%1000+999", 9999 * 9999 * 9999 % 1000 + 999);
        value("(" + LEAST + "-1)+1<0", 1);
        value("(" + LEAST + "-1)-(0-1)<0", 1);
        value(LEAST + "/-1<0", 1);
        value(LEAST + "%-1+7", 7);
    }

    private static void divisions() {
        doc.sentence(0, "/ and % toward 0, by 0 they give 0");
        value("7/2", 3);
        value("-7/2+50", 47);
        value("7/-2+50", 47);
        value("-7/-2", 3);
        value("7%4", 3);
        value("-7%4+50", 47);
        value("7%-4", 3);
        value("-7%-4+50", 47);
        value("7/0+5", 5);
        value("7%0+5", 5);
        value("-7/0+5", 5);
        value("0/0+5", 5);
        value("0%0+5", 5);
        value("7/(3-3)*2+5", 5);
        value(LEAST + "/0+5", 5);
        value(LEAST + "%0+5", 5);
    }

    private static void truths() {
        doc.sentence(0, "| & < = > ! give 1, 0");
        String[] ones = {"3|0", "0|3", "3|-3", "3&2", "-1&2", "2<3", "-3<2", "3=3", "4>3", "-3>-4", "!0", "!!5"};
        for (String text : ones) {
            value(text, 1);
            value(text + "?33;44", 33);
        }
        String[] zeros = {"0|0", "3&0", "0&3", "0&0", "3<3", "4<3", "3=4", "3>3", "3>4", "!5", "!-5", "!!0"};
        for (String text : zeros) {
            value(text, 0);
            value(text + "?33;44", 44);
        }
    }

    private static void allIsWorkedOut() {
        doc.sentence(0, "all is worked out");
        value("1|1/0", 1);
        value("0&1%0", 0);
        value("1?7;1/0", 7);
        value("0?1/0;7", 7);
    }

    private static void firstLineThatCounts() {
        doc.sentence(0, "The first LINE without a first E, or whose first E is not 0, counts; none: 0.");
        value("3;4", 3);
        value("0;4", 0);
        value("0?5;7;8", 7);
        value("0?5;2?6;7", 6);
        value("-1?5;2?6;7", 5);
        value("1?0;4", 0);
        value("0?5", 0);
        value("0?5;0?6", 0);
        value("l=0?5;l=1?6", 6);
    }

    private static void faultAtAByte() {
        doc.sentence(0, "FAULT: the place (from 0) of the first byte with which no TEXT goes on");
        text("x", -100);
        text("1x", -101);
        text("1;x", -102);
        text("x1x", -100);
        text("1+2)+3(", -103);
        text("1\u00ff", -101);
        text("1\u0000", -101);
        StringBuilder text = new StringBuilder("1");
        while (text.length() < 119) {
            text.append("+1");
        }
        text(text + "x", -219);
        CardUnsigned x = new CardUnsigned();
        for (int letter = 128; letter <= 255; letter++) {
            x.feed(letter);
            if (letter % 16 == 0) {
                doc.due(x, "law()", -100);
            }
        }
        x.law();
        for (int letter : new int[] {'l' + 128, '1' + 128, '(' + 128}) {
            doc.due(x, "feed(" + letter + ")", 1);
            doc.due(x, "law()", -100);
        }
    }

    private static void faultAtTheEnd() {
        doc.sentence(0, "the length, if it ends too early");
        text("", -100);
        text("1+", -102);
        text("1;", -102);
        text("1?", -102);
        text("1?2;", -104);
        text("!", -101);
        text("-(", -102);
        text("(1", -102);
        text("((1)", -104);
        text("1<", -102);
        text("1|(2&3", -106);
        StringBuilder open = new StringBuilder("(1");
        while (open.length() < 120) {
            open.append("+1");
        }
        text(open.toString(), -220);
    }

    private static void heldWithin() {
        doc.sentence(0, "It gives how much a CARD COUNTS for one who COULD (held within 0 .. 99");
        value("0", 0);
        value("1", 1);
        value("98", 98);
        value("99", 99);
        value("100", 99);
        value("9999", 99);
        value("-1", 0);
        value("-9999", 0);
        value(LEAST, 0);
        value(LEAST + "-1", 99);
    }

    private static void forOthersNothing() {
        doc.sentence(0, "; for others 0)");
        CardUnsigned x = office();
        Given.law(x, "42");
        doc.due(x, "counts(0)", 0);
        doc.due(x, "counts(10)", 0);
        doc.due(x, "counts(11)", 42);
        x.mend(1, 5, 251);
        doc.due(x, "counts(11)", 0);
        x.mend(1, 5, 4);
        x.mend(1, 0, 51);
        doc.due(x, "counts(11)", 0);
        x.mend(1, 0, 50);
        doc.due(x, "counts(11)", 42);
    }

    private static void withoutAText() {
        doc.sentence(0, "Without a text: 1 and 4 l, times 12 less FEIGNS if h is 2, 12 if it is 1, FEIGNS if it is 0, 99 at most.");
        int[] feigns = {0, 1, 2, 11, 12};
        for (int f : feigns) {
            for (int likes = 0; likes <= 1; likes++) {
                CardUnsigned x = office();
                x.mend(0, 10, f);
                x.mend(1, 4, likes);
                int times = 1 + 4 * likes;
                doc.due(x, "counts(1)", times * 12);
                doc.due(x, "counts(11)", times * (12 - f));
                x.mend(1, 7, 3);
                doc.due(x, "counts(11)", times * f);
                doc.due(x, "counts(10)", 0);
            }
        }
    }
}
