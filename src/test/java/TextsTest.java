/** Promises 7 to 9: feed, text, force; and what a text says. */
public final class TextsTest {
    public static void main(String[] args) {
        feeding();
        textsAndForce();
        faultsOfOrder();
        faultsOfTokens();
        faultsOfDepth();
        fullTapes();
        values();
        names();
        bounds();
        Due.finish();
    }

    private static void feeding() {
        EvenlyPoured tea = new EvenlyPoured();
        Due.due("feed(-1)", tea.feed(-1), -2);
        Due.due("feed(256)", tea.feed(256), -2);
        Due.due("feed(0)", tea.feed(0), 1);
        Due.due("feed(255)", tea.feed(255), 2);
        for (int k = 2; k < 160; k++) {
            Due.due("feed " + k, tea.feed(32), k + 1);
        }
        Due.due("feed, 160 are there", tea.feed(32), -4);
        Due.due("feed(256), 160 are there", tea.feed(256), -2);
        Due.due("count(4)", tea.count(4), 160);
        Due.due("text: byte 0 begins none", tea.text(), -100);
        Due.due("count(4) behind a fault", tea.count(4), 0);
        Due.due("feed behind a fault", tea.feed(32), 1);
        Due.due("text of a blank", tea.text(), -101);
        Due.due("a text behind faults", Due.read(tea, "strong 1;drips 2;liked 3;"), 1);
    }

    /** THE TAPE up to its last byte in one token, and in as many as can be. */
    private static void fullTapes() {
        fault("1".repeat(160), 0);
        fault("z".repeat(160), 0);
        fault(";".repeat(160), 0);
        fault("strong " + "-1".repeat(76) + "1", 160);
        fault("strong 1;drips 2;liked 3;" + " ".repeat(135 - 5) + "12345", 155);
        fine("strong 1;drips 2;liked 3;" + "\n".repeat(135));
        fine("strong " + "1+".repeat(67) + "1;drips 2;liked 3" + ";");
    }

    private static void textsAndForce() {
        EvenlyPoured tea = new EvenlyPoured();
        Due.due("force(1), no such text", tea.force(1), -2);
        Due.due("force(-1)", tea.force(-1), -2);
        Due.due("force(0)", tea.force(0), 0);
        for (int number = 1; number < 6; number++) {
            Due.due("text " + number, Due.read(tea, "strong " + number + ";drips 0;liked 7;"), number);
            Due.due("tape behind text " + number, tea.count(4), 0);
            Due.due("texts", tea.count(3), number + 1);
            Due.due("rule stays", tea.count(5), 0);
        }
        Due.due("feed, 6 texts", tea.feed('x'), 1);
        Due.due("text, 6 texts", tea.text(), -4);
        Due.due("tape stays", tea.count(4), 1);
        Due.due("texts", tea.count(3), 6);
        Due.due("force(5)", tea.force(5), 0);
        Due.due("force(6)", tea.force(6), -2);
        Due.due("strength by text 5", tea.cup(0, 1), 40);
        Due.due("force(2)", tea.force(2), 5);
        Due.due("strength by text 2", tea.cup(0, 1), 16);
        Due.due("force(0)", tea.force(0), 2);
        Due.due("strength by text 0", tea.cup(0, 1), 36);
        Due.due("count(5)", tea.count(5), 0);
    }

    private static void fault(String text, int place) {
        EvenlyPoured tea = new EvenlyPoured();
        Due.due("text '" + text + "'", Due.read(tea, text), -100 - place);
        Due.due("tape behind the fault in " + text, tea.count(4), 0);
        Due.due("texts behind the fault in " + text, tea.count(3), 1);
    }

    private static void fine(String text) {
        EvenlyPoured tea = new EvenlyPoured();
        Due.due("text '" + text + "'", Due.read(tea, text), 1);
    }

    private static void faultsOfOrder() {
        fault("", 0);
        fault("  \n ", 4);
        fault("drips 0;", 0);
        fault("strong", 6);
        fault("strong ", 7);
        fault("strong ;", 7);
        fault("strong 1", 8);
        fault("strong 1 ; liked 1;", 11);
        fault("strong 1;drips 2;liked 3", 24);
        fault("strong 1;drips 2;liked 3 ", 25);
        fault("strong 1;drips 2;strong 3;", 17);
        fault("strong 1;drips 2;liked 3;;", 25);
        fault("strong 1;drips 2;liked 3; x", 26);
        fault("strong 1;drips 2;liked 3; strong", 26);
        fault("strong 1 2;drips 2;liked 3;", 9);
        fault("strong 1 drib;drips 2;liked 3;", 9);
        fault("strong 12drib;drips 2;liked 3;", 9);
        fault("strong drib 1;drips 2;liked 3;", 12);
        fault("strong 1+;drips 2;liked 3;", 9);
        fault("strong 1++2;drips 2;liked 3;", 9);
        fault("strong *2;drips 2;liked 3;", 7);
        fault("strong +2;drips 2;liked 3;", 7);
        fault("strong 1<=2;drips 2;liked 3;", 9);
        fault("strong 1<2<3;drips 2;liked 3;", 10);
        fault("strong 1<2=3;drips 2;liked 3;", 10);
        fault("strong 1=2<3;drips 2;liked 3;", 10);
        fault("strong not 1<2<3;drips 2;liked 3;", 14);
        fault("strong 1+not 2;drips 2;liked 3;", 9);
        fault("strong 1<not 2;drips 2;liked 3;", 9);
        fault("strong -not 2;drips 2;liked 3;", 8);
        fault("strong 2*not 2;drips 2;liked 3;", 9);
        fault("strong not;drips 2;liked 3;", 10);
        fault("strong or 1;drips 2;liked 3;", 7);
        fault("strong 1 or or 1;drips 2;liked 3;", 12);
        fault("strong 1 and ;drips 2;liked 3;", 13);
        fault("strong 1 not 1;drips 2;liked 3;", 9);
        fault("strong ();drips 2;liked 3;", 8);
        fault("strong (1;drips 2;liked 3;", 9);
        fault("strong (1", 9);
        fault("strong 1);drips 2;liked 3;", 8);
        fault("strong (1));drips 2;liked 3;", 10);
        fault("strong 1(2);drips 2;liked 3;", 8);
        fault("strong (1)2;drips 2;liked 3;", 10);
        fault("strong strong;drips 2;liked 3;", 7);
        fine("strong 1;drips 2;liked 3;");
        fine("\n\n strong\n1 ;drips\n2;liked 3;\n ");
        fine("strong1;drips2;liked3;");
        fine("strong(1);drips-1;liked(drib)<2;");
        fine("strong not not 1;drips 1<2 and not 3<4 or 5=6;liked (1<2)<3;");
        fine("strong not(1)<2;drips 1--1;liked 1*-1;");
        fine("strong (not 1)+2;drips 0;liked 0;");
        fine("strong 1 or 2 or 3 and 4 and 5;drips 1+2-3+4;liked 1*2*3;");
    }

    private static void faultsOfTokens() {
        fault("Strong 1;drips 2;liked 3;", 0);
        fault("strong 1;drips 2;liked 3;\t", 25);
        fault("strong\t1;drips 2;liked 3;", 6);
        fault("strong 1/2;drips 2;liked 3;", 8);
        fault("strong 1>2;drips 2;liked 3;", 8);
        fault("strong 1;drips 2;liked 3;" + (char) 200, 25);
        fault("strong 12345;drips 2;liked 3;", 7);
        fault("strong 00001;drips 2;liked 3;", 7);
        fault("strong 1 12345;drips 2;liked 3;", 9);
        fault("strong 1;drips 2;liked 3;12345", 25);
        fine("strong 9999;drips 0001;liked 0000;");
        fault("strong dri;drips 2;liked 3;", 7);
        fault("strong dribss;drips 2;liked 3;", 7);
        fault("strong cupcup;drips 2;liked 3;", 7);
        fault("strong cupz;drips 2;liked 3;", 7);
        fault("strong acup;drips 2;liked 3;", 7);
        fault("strong xor 1;drips 2;liked 3;", 7);
        fault("strong drib or drip;drips 2;liked 3;", 15);
        fault("strongdrib;drips 2;liked 3;", 0);
        fault("strong 1orx 2;drips 2;liked 3;", 8);
        fine("strong 1or 2and 3;drips 2;liked 3;");
        fault("strong drib2;drips 2;liked 3;", 11);
        fault("strong a;drips 99999;", 7);
        fault("strong " + "drib*".repeat(30) + "1;;", 159);
        fault("strong " + "drib*".repeat(30) + "1 ;", 160);
    }

    private static void faultsOfDepth() {
        fine("strong (((((1)))));drips 2;liked 3;");
        fault("strong ((((((1))))));drips 2;liked 3;", 12);
        fine("strong -----1;drips 2;liked 3;");
        fault("strong ------1;drips 2;liked 3;", 12);
        fine("strong not not not not not 1;drips 2;liked 3;");
        fault("strong not not not not not not 1;drips 2;liked 3;", 27);
        fine("strong not(-(-1));drips 2;liked 3;");
        fine("strong not -(-(1));drips 2;liked 3;");
        fault("strong not -(-(-1));drips 2;liked 3;", 15);
        fault("strong not -(-(not 1));drips 2;liked 3;", 15);
        fault("strong not -(-((1)));drips 2;liked 3;", 15);
        fine("strong not -(-(1-1-1));drips 2;liked 3;");
        fine("strong -1-1-1-1-1-1-1-1;drips 2;liked 3;");
        fine("strong -1--1--1--1--1--1--1;drips 2;liked 3;");
        fine("strong (1)+(1)+(1)+(1)+(1)+(1)+(1);drips 2;liked 3;");
        fine("strong not 1 or not 1 and not 1 or not 1 or not 1 or not 1;drips 2;liked 3;");
        fault("strong not 1<((((-1))));drips 2;liked 3;", 17);
        fine("strong not 1 and ((((-1))));drips 2;liked 3;");
        fine("strong (((((1)))))*(((((1)))));drips (((((1)))));liked -----1;");
        fault("strong ((((((;drips 2;liked 3;", 12);
    }

    /** What a formula is worth, told by a cup's strength: one drib into one cup. */
    private static void worth(String formula, int want) {
        EvenlyPoured tea = new EvenlyPoured();
        Due.rule(tea, "strong " + formula + ";drips 0;liked " + formula + ";");
        tea.set(1, 0, 1);
        Due.due("strong " + formula, tea.cup(0, 1), Math.min(want, 999));
        tea.set(1, 0, 0);
        Due.due("liked " + formula, tea.cup(0, 2), want);
    }

    private static void values() {
        worth("0", 0);
        worth("0012", 12);
        worth("2+3*4", 14);
        worth("(2+3)*4", 20);
        worth("9-3-2", 4);
        worth("9-(3-2)", 8);
        worth("-3+5", 2);
        worth("2*-3+9", 3);
        worth("--5", 5);
        worth("1<2", 1);
        worth("2<2", 0);
        worth("2<1", 0);
        worth("2=2", 1);
        worth("2=3", 0);
        worth("1+1=2", 1);
        worth("5+(1<2)*3", 8);
        worth("7 and 8", 1);
        worth("1 and 1", 1);
        worth("1 or 1", 1);
        worth("7 and 0", 0);
        worth("0 or 9", 1);
        worth("0 or 0", 0);
        worth("not 0", 1);
        worth("not 5", 0);
        worth("not not 5", 1);
        worth("not 2<1", 1);
        worth("not 0=1", 1);
        worth("(not 0)+4", 5);
        worth("1 or 0 and 0", 1);
        worth("(1 or 0) and 0", 0);
        worth("not 1 or 1", 1);
        worth("not 0 and 0", 0);
        worth("-1<0", 1);
        // 9999 * 9999 * 22 is 2199560022: behind 2147483647 it goes on below 0.
        worth("9999*9999*21<0", 0);
        worth("9999*9999*22<0", 1);
        worth("9999*9999*22+9999*9999*21<9999*9999", 1);
        worth("(((((1+2)*3+4)*5+6)*7+8)*2)", 1010);
        worth("1+2*(3+4*(5+6*(7+8*(9+1))))", 1 + 2 * (3 + 4 * (5 + 6 * (7 + 8 * 10))));
    }

    /** Names: of a drib, and of a cup at the end. */
    private static void names() {
        EvenlyPoured tea = new EvenlyPoured();
        tea.set(0, 0, 3);
        Due.rule(tea, "strong drib*100+full*10+was;drips cup*100+was*10+dribs;liked drib*1000+cups*100+cup*10+full;");
        Due.row(tea, "0210");
        // 0: 0 into 0; 1: 100 less 204 into 2; 2: 202 less 124 into 1; 3: 311 less 14 into 0.
        Due.due("strength 0", tea.cup(0, 1), 297);
        Due.due("strength 1", tea.cup(1, 1), 78);
        Due.due("strength 2", tea.cup(2, 1), 0);
        Due.due("dripped", tea.all(3), 100 + 124 + 14);
        Due.due("liked 0", tea.cup(0, 2), 4302);
        Due.due("liked 1", tea.cup(1, 2), 4311);
        Due.due("liked 2", tea.cup(2, 2), 4321);
        Due.rule(tea, "strong was*100+cup;drips 0;liked was*10+cup;");
        Due.row(tea, "21");
        Due.due("was of the first drib is its cup", tea.cup(2, 1), 202);
        Due.due("was of the second", tea.cup(1, 1), 201);
        Due.due("was of a cup", tea.cup(2, 2), 22);
        Due.rule(tea, "strong dribs*10+cups;drips 0;liked 0;");
        Due.row(tea, "00000");
        Due.due("dribs, cups", tea.cup(0, 1), 5 * 53);
    }

    private static void bounds() {
        EvenlyPoured tea = new EvenlyPoured();
        Due.rule(tea, "strong 1000;drips 1000;liked 9999+1;");
        Due.row(tea, "01");
        Due.due("strong is 999 at most", tea.cup(0, 1), 999);
        Due.due("all drips", tea.cup(1, 1), 0);
        Due.due("dripped", tea.all(3), 999);
        Due.due("liked is 9999 at most", tea.cup(0, 2), 9999);
        Due.rule(tea, "strong 5-drib*9;drips -3;liked -1;");
        Due.due("strong is 0 at least", tea.cup(1, 1), 0);
        Due.due("strong of drib 0", tea.cup(0, 1), 5);
        Due.due("drips is 0 at least", tea.all(3), 0);
        Due.due("liked is 0 at least", tea.cup(0, 2), 0);
        Due.rule(tea, "strong 50;drips 999;liked 1;");
        Due.due("no more drips than there is", tea.all(3), 50);
        Due.rule(tea, "strong 999;drips 998;liked 1;");
        Due.due("the rest stays", tea.cup(1, 1), 1);
        Due.row(tea, "11");
        Due.due("none drips where none changes", tea.all(3), 0);
    }
}
