/** Promises 8 and 10: which texts are laws, where others are at fault, and how much a card counts by them. */
public final class LawTest {
    private static final Check check = new Check();

    public static void main(String[] args) {
        texts();
        faults();
        values();
        names();
        refusedLawKeepsTheOldOne();
        longest();
        withoutLaw();
        check.end();
    }

    private static void law(String text, int due) {
        CardUnsigned x = new CardUnsigned();
        check.due(8, "law of " + text, Given.law(x, text), due);
        check.due(8, "the tape behind it", x.count(2), 0);
    }

    private static void texts() {
        String[] good = {"1", "0000", "9999", "l", "h", "s", "k", "m", "c", "1;2", "1?2", "1?2;3?4;5", "1|2&3<4+5*6",
            "!!!!!!1", "------1", "((((((1))))))", "!-(!-(1))", "1-----1", "1--1", "(1<2)<3", "1<(2<3)", "1<2&2<3",
            "1<2|2<3", "1<2?2<3", "1<2;2<3", "(1)*(2)/(3)%(4)", "1-------1", "((((((1))))))+((((((1))))))",
            "!!!!!!1*!!!!!!1", "12/0", "12%0", "(1?2)".replace("?", "=")};
        for (String text : good) {
            law(text, 1);
        }
    }

    private static void faults() {
        law("", -100);
        law(" ", -100);
        law("1 ", -101);
        law("1;", -102);
        law(";", -100);
        law("1;;", -102);
        law("?", -100);
        law("1?", -102);
        law("1?2?3", -103);
        law("1?2;3?4?5", -107);
        law("(1?2)", -102);
        law("(1;2)", -102);
        law("(1", -102);
        law("(", -101);
        law("()", -101);
        law("1)", -101);
        law("(1))", -103);
        law("12345", -104);
        law("00000", -104);
        law("1+12345", -106);
        law("!!!!!!!1", -106);
        law("-------1", -106);
        law("(((((((1", -106);
        law("1--------1", -108);
        law("(!-(!-(1", -106);
        law("((((((1)))))", -112);
        law("1<2<3", -103);
        law("1<2=3", -103);
        law("1<2+3>4", -105);
        law("1<2*-3=4", -106);
        law("1+", -102);
        law("+1", -100);
        law("*1", -100);
        law("1l", -101);
        law("l1", -101);
        law("ll", -101);
        law("1!", -101);
        law("1(", -101);
        law("1+*2", -102);
        law("a", -100);
        law("L", -100);
        law("1||2", -102);
        law("1==2", -102);
        law("1<=2", -102);
        law("!", -101);
        law("-", -101);
        law("1;2?", -104);
        law("1\u00ff", -101);
        law("\u0000", -100);
        law("~1", -100);
    }

    /** The office of one who likes whom the card is to, and could have written it. */
    private static CardUnsigned office() {
        CardUnsigned x = new CardUnsigned();
        x.person(0);
        x.person(1);
        x.mend(1, 4, 1);
        x.mend(1, 3, 7);
        x.mend(1, 5, 4);
        x.mend(0, 5, 4);
        x.card(0, 0);
        x.card(50, 321);
        return x;
    }

    private static void value(String text, int due) {
        CardUnsigned x = office();
        check.due(8, "law of " + text, Given.law(x, text), 1);
        check.due(10, "counts(11) by " + text, x.counts(11), due);
    }

    private static void values() {
        value("0", 0);
        value("100", 99);
        value("-5", 0);
        value("1+2*3", 7);
        value("(1+2)*3", 9);
        value("20-5-3", 12);
        value("100/7/2", 7);
        value("100%7*3", 6);
        value("0-7/2+50", 47);
        value("0-7%4+50", 47);
        value("-7/2+50", 47);
        value("-7%4+50", 47);
        value("7/0+5", 5);
        value("7%0+5", 5);
        value("3|0", 1);
        value("0|0", 0);
        value("3&2", 1);
        value("3&0", 0);
        value("1|1&0", 1);
        value("(1|1)&0", 0);
        value("2<3", 1);
        value("3<3", 0);
        value("3=3", 1);
        value("4>3", 1);
        value("3>3", 0);
        value("1+2=3", 1);
        value("!5", 0);
        value("!0", 1);
        value("!!5", 1);
        value("-!0+9", 8);
        value("!-1", 0);
        value("--9", 9);
        value("-3*-4", 12);
        value("!0*5", 5);
        value("9999*9999*9999", wrap(9999 * 9999 * 9999));
        value("9999*9999*100/1000/1000", wrap(9999 * 9999 * 100 / 1000 / 1000));
        value("9999*9999*25*9-1>0", 9999 * 9999 * 25 * 9 - 1 > 0 ? 1 : 0);
        value("0?5;0?6;7", 7);
        value("0?5;2?6;7", 6);
        value("-1?5;2?6;7", 5);
        value("0?5;0?6", 0);
        value("3;4", 3);
        value("1?0;4", 0);
        value("0012", 12);
    }

    private static int wrap(int v) {
        return Math.max(0, Math.min(99, v));
    }

    private static void names() {
        value("l", 1);
        value("h", 2);
        value("s", 7);
        value("k", 2);
        value("m", 1);
        value("c", 1);
        CardUnsigned x = office();
        Given.law(x, "l*32+h*16+s*2+k*4+m*8+c+1");
        check.due(10, "counts(1): no hand, secret, stamp", x.counts(1), 32 + 16 + 14 + 1);
        x.mend(1, 4, 2);
        x.mend(0, 7, 0);
        check.due(10, "counts(1): another hand, not liked", x.counts(1), 14 + 1);
        check.due(10, "counts(0): it is to that one", x.counts(0), 0);
        x.mend(1, 5, 0);
        check.due(10, "counts(11): not known", x.counts(11), 0);
        check.due(10, "counts(2)", x.counts(2), -1);
        check.due(10, "counts(20)", x.counts(20), -1);
        check.due(10, "counts(-1)", x.counts(-1), -1);
    }

    private static void refusedLawKeepsTheOldOne() {
        CardUnsigned x = office();
        check.due(8, "law", Given.law(x, "42"), 1);
        check.due(8, "law at fault", Given.law(x, "43+"), -103);
        check.due(8, "counts behind a fault", x.counts(1), 42);
        check.due(8, "law of nothing", x.law(), -100);
        check.due(8, "counts behind a fault", x.counts(1), 42);
        check.due(8, "law", Given.law(x, "44"), 1);
        check.due(8, "counts", x.counts(1), 44);
    }

    private static void longest() {
        StringBuilder ones = new StringBuilder("11");
        while (ones.length() < 120) {
            ones.append("+1");
        }
        value(ones.toString(), 70);
        StringBuilder guards = new StringBuilder();
        while (guards.length() < 116) {
            guards.append("0?1;");
        }
        value(guards.append("0|77").toString(), 1);
        StringBuilder deep = new StringBuilder();
        while (deep.length() < 105) {
            deep.append("-(-(-(1)))+22-");
        }
        law(deep.toString(), -100 - deep.length());
    }

    private static void withoutLaw() {
        CardUnsigned x = office();
        check.due(10, "likes, none shown", x.counts(1), 60);
        check.due(10, "likes, its hand", x.counts(11), 50);
        x.mend(1, 7, 3);
        check.due(10, "likes, another hand", x.counts(11), 10);
        x.mend(1, 4, 0);
        check.due(10, "another hand", x.counts(11), 2);
        check.due(10, "none shown", x.counts(1), 12);
        x.mend(1, 7, 1);
        check.due(10, "its hand", x.counts(11), 10);
        x.mend(0, 10, 0);
        check.due(10, "its hand, none feigns", x.counts(11), 12);
        x.mend(0, 10, 12);
        check.due(10, "its hand, all feign", x.counts(11), 0);
    }
}
