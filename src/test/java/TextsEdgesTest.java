/** The edges that the document names in promises 7 to 9: feed, text, force; and in TEXTS, tokens, FAULT and E. */
public final class TextsEdgesTest {
    private static final int BAD = Run.BAD, FULL = Run.FULL;
    private static final String PLAIN = "strong 1;drips 2;liked 3;";
    private static final String LEAST = "2048*1024*1024";

    public static void main(String[] args) {
        feed();
        tapeIsFull();
        tapeIsEmptyThen();
        sixTexts();
        force();
        everyByteAhead();
        everyByteInAnE();
        everyByteBehind();
        words();
        numbers();
        blanks();
        endsTooEarly();
        fiveOpen();
        closedAgain();
        oneComparison();
        firstOfTwoFaults();
        wraps();
        truths();
        strongBounds();
        dripsBounds();
        likedBounds();
        namesOfDribs();
        namesOfCups();
        Due.finish();
    }

    private static void fault(String text, int place) {
        Run.of("image").due("read " + text, -100 - place).due("count 3", 1).due("count 4", 0).due("count 5", 0);
    }

    private static void fine(String text) {
        Run.of("image").due("read " + text, 1).due("count 3", 2).due("count 4", 0).due("count 5", 0);
    }

    /** "A byte (0 .. 255) comes behind THE TAPE: how many it has. BAD" */
    private static void feed() {
        Run.of("bytes strong 1").bounds("feed _", 0, 255, BAD);
        Run.of("").bounds("feed _", 0, 255, BAD).due("feed 0", 1).due("feed 255", 2).due("count 4", 2);
    }

    /** "THE TAPE (160 bytes at most)": the 160th is taken; BAD is told ahead of FULL. */
    private static void tapeIsFull() {
        String most = PLAIN + " ".repeat(160 - PLAIN.length());
        Run.of("bytes " + most.substring(1)).due("count 4", 159).due("feed 32", 160).due("count 4", 160);
        Run.of("bytes " + most).refused("feed 32", FULL).refused("feed 0", FULL).refused("feed 255", FULL);
        Run.of("bytes " + most).refused("feed 256", BAD).refused("feed -1", BAD).due("text", 1).due("feed 32", 1);
        fine("strong " + "-".repeat(5) + "9".repeat(4) + " ".repeat(160 - 34) + ";drips 2;liked 3;");
        fault(" ".repeat(159) + "x", 159);
        fault(" ".repeat(160), 160);
        fault(PLAIN + " ".repeat(134) + ";", 159);
        // As many tokens as bytes, and one as long as all.
        fault(";".repeat(160), 0);
        fault("1".repeat(160), 0);
        fault("a".repeat(160), 0);
        fault("strong " + "-1".repeat(76) + "1", 160);
        fine("strong " + "1+".repeat(67) + "1;drips 2;liked 3" + ";");
        fault(" ".repeat(136) + PLAIN.substring(0, 24), 160);
    }

    /** "THE TAPE, which is empty then (by a FAULT, too)" */
    private static void tapeIsEmptyThen() {
        Run.of("read " + PLAIN).due("count 4", 0).due("feed 115", 1).also("feed 116").due("text", -100).due("count 4", 0);
        Run.of("read strong").due("count 4", 0).due("text", -100).due("read " + PLAIN, 1);
        Run.of("").due("text", -100).due("text", -100).due("count 3", 1);
    }

    /** "There are 6 TEXTS at most, TEXT 0 with them." "FULL (ahead of all): no TEXT more has room (THE TAPE stays)." */
    private static void sixTexts() {
        Run five = Run.of("read strong 1;drips 0;liked 1;, read strong 2;drips 0;liked 2;, read x, read strong 3;drips 0;liked 3;");
        five.also("read strong 4;drips 0;liked 4;").due("count 3", 5).due("read strong 5;drips 0;liked 5;", 5).due("count 3", 6);
        five.refused("text", FULL).due("force 5", 0).due("cup 0 1", 40).due("force 1", 5).due("cup 0 1", 8);
        five.also("bytes " + PLAIN).refused("text", FULL).due("count 4", PLAIN.length());
        five.also("bytes ;#").refused("text", FULL).due("count 4", PLAIN.length() + 2).due("count 3", 6);
        five.also("bytes " + " ".repeat(160 - 27)).refused("text", FULL).due("count 4", 160);
    }

    /** "A TEXT is THE RULE: which was. BAD." */
    private static void force() {
        Run.of("").bounds("force _", 0, 0, BAD);
        Run.of("read " + PLAIN).bounds("force _", 0, 1, BAD).due("force 1", 0).due("force 1", 1).due("force 0", 1).due("force 0", 0);
        Run six = Run.of("read " + PLAIN, "read " + PLAIN, "read " + PLAIN, "read " + PLAIN, "read " + PLAIN);
        six.bounds("force _", 0, 5, BAD).due("force 5", 0).due("count 5", 5).due("force 0", 5);
        Run.of("read x").refused("force 1", BAD);
        Run.of("rule " + PLAIN).refused("force 2", BAD).refused("force -1", BAD).refused("feed 256", BAD).due("count 5", 1);
        Run.of("rule " + PLAIN, "back").due("cup 0 1", 8).due("cup 0 2", 3).due("lay 1 1", 0).due("all 3", 1 + 1);
    }

    private static boolean isBlank(int b) {
        return b == 32 || b == 10;
    }

    /** "also of a byte that begins none": ahead of a text only blanks may stand. */
    private static void everyByteAhead() {
        for (int b = 0; b < 256; b++) {
            Run tea = Run.of("image");
            tea.due("feed " + b, 1).due("read " + PLAIN, isBlank(b) ? 1 : -100);
        }
    }

    private static void everyByteInAnE() {
        for (int b = 0; b < 256; b++) {
            Run tea = Run.of("bytes strong ", "feed " + b, "bytes ;drips 2;liked 3;");
            boolean isDigit = b >= '0' && b <= '9';
            // Behind a blank, a ( and a - the ; is the one that can't stand there.
            boolean mayStand = isBlank(b) || b == '(' || b == '-';
            tea.due("text", isDigit ? 1 : mayStand ? -108 : -107);
        }
    }

    private static void everyByteBehind() {
        for (int b = 0; b < 256; b++) {
            Run tea = Run.of("bytes " + PLAIN + " ", "feed " + b);
            tea.due("text", isBlank(b) ? 1 : -126);
        }
    }

    /** "each as long as can be: WORDS (a .. z)" "a WORD that is neither KEY nor NAME" */
    private static void words() {
        for (String name : new String[] {"drib", "dribs", "cups", "cup", "full", "was"}) {
            fine("strong " + name + ";drips " + name + ";liked " + name + ";");
            fine("strong 1+" + name + "*2;drips(" + name + ");liked-" + name + ";");
            fault("strong " + name + "s s;drips 2;liked 3;", name.equals("drib") || name.equals("cup") ? 9 + name.length() : 7);
            fault("strong " + name + "a;drips 2;liked 3;", 7);
            fault("strong " + name + "z;drips 2;liked 3;", 7);
            fault("strong z" + name + ";drips 2;liked 3;", 7);
            fault("strong a" + name + ";drips 2;liked 3;", 7);
            fault("strong " + name + name + ";drips 2;liked 3;", 7);
            fault("strong 1or" + name + ";drips 2;liked 3;", 8);
            fault("strong" + name + ";drips 2;liked 3;", 0);
            fault("strong " + name + ";" + name + " 2;liked 3;", 8 + name.length());
        }
        for (String key : new String[] {"strong", "drips", "liked", "or", "and", "not"}) {
            fault(key + "s 1;drips 2;liked 3;", 0);
            fault("strong 1 " + key + ";drips 2;liked 3;", key.equals("or") || key.equals("and") ? 9 + key.length() : 9);
            fault("strong " + key + ";drips 2;liked 3;", key.equals("not") ? 10 : 7);
        }
        fault("stron 1;drips 2;liked 3;", 0);
        fault("strong 1;drip 2;liked 3;", 9);
        fault("strong 1;drips 2;like 3;", 17);
        fault("strong 1;drips 2;likedliked 3;", 17);
        fault("strong dri b;drips 2;liked 3;", 7);
        fine("strong drib or dribs and cup or cups and full or was;drips not drib;liked not not was;");
    }

    /** "NUMBERS (as many digits as stand there, 4 at most)" "a NUMBER that is too long" */
    private static void numbers() {
        fine("strong 0;drips 0000;liked 9999;");
        fault("strong 10000;drips 2;liked 3;", 7);
        fault("strong 00000;drips 2;liked 3;", 7);
        fault("strong 1;drips 99999;liked 3;", 15);
        fault("strong 1;drips 2;liked 12345678901234567890;", 23);
        fault("strong 1+00001;drips 2;liked 3;", 9);
        fault("strong 1234 5;drips 2;liked 3;", 12);
        fault("strong 1;drips 2;liked 3;55555", 25);
        fault("55555", 0);
        fault("strong 5555", 11);
        fault("strong 55555", 7);
        Run.of("rule strong 0007;drips 0;liked 9999;").due("cup 1 2", 9999).due("cup 0 1", 56);
    }

    /** "blanks (32, 10) may stand between": none need, where none joins two tokens. */
    private static void blanks() {
        fine("strong1;drips2;liked3;");
        fine("\n strong \n 1 \n ; \n drips \n 2 \n ; \n liked \n 3 \n ; \n ");
        fine("strong\n1;drips\n2;liked\n3;");
        fine("strong 1or 2and 3<4;drips(1)or(2);liked not(1)and not 2;");
        fault("strong\t1;drips 2;liked 3;", 6);
        fault("strong\r1;drips 2;liked 3;", 6);
        fault("str ong 1;drips 2;liked 3;", 0);
        fault("strong 1 2;drips 2;liked 3;", 9);
    }

    /** "(the text's size, if it ends too early)": cut behind each byte; a word that is cut is none. */
    private static void endsTooEarly() {
        String whole = "strong not (1+dribs)*-20<3 and cup or was ;\ndrips -(full = cups) ; liked 9999 - drib * 5 ;";
        fine(whole);
        for (int size = 0; size < whole.length(); size++) {
            String cut = whole.substring(0, size);
            int from = size;
            while (from > 0 && Character.isLetter(cut.charAt(from - 1))) {
                from--;
            }
            boolean isWord = " strong not drib dribs and cup cups or was drips full liked ".contains(" " + cut.substring(from) + " ");
            fault(cut, isWord || from == size ? size : from);
        }
        fault("strong 1;drips 2;liked 3   ", 27);
        fault("strong 1;drips 2;liked 3\n", 25);
    }

    /** "a ( , a not, a - ahead of a ONE while 5 of these are open" */
    private static void fiveOpen() {
        String[] opening = {"(", "-", "not "};
        for (int kinds = 0; kinds < 243; kinds++) {
            StringBuilder five = new StringBuilder("strong ");
            StringBuilder closing = new StringBuilder();
            boolean mayBeNot = true;
            int rest = kinds;
            for (int k = 0; k < 5; k++) {
                // Behind a - there is no not: a ( there instead.
                String next = opening[rest % 3].equals("not ") && !mayBeNot ? "(" : opening[rest % 3];
                five.append(next);
                closing.append(next.equals("(") ? ")" : "");
                mayBeNot = !next.equals("-");
                rest /= 3;
            }
            fine(five + "1" + closing + ";drips 2;liked 3;");
            fine(five + "1-1" + closing + "-1;drips 2;liked 3;");
            fault(five + "(1)" + closing + ";drips 2;liked 3;", five.length());
            fault(five + "-1" + closing + ";drips 2;liked 3;", five.length());
            fault(five + "not 1" + closing + ";drips 2;liked 3;", five.length());
            fault(five + ";", five.length());
            fault(five.toString(), five.length());
        }
    }

    /** "(a ( till its ) , not and - till what they belong to ends)" */
    private static void closedAgain() {
        fine("strong (((((1)))))+(((((1)))));drips (((((2)))));liked (((((3)))));");
        fault("strong (((((1)+((2))))));drips 2;liked 3;", 16);
        fine("strong ((((1)+(2))));drips 2;liked 3;");
        fine("strong -----1+-----1;drips -----1*-----1;liked -----1<-----1;");
        fine("strong ----(1)-----1;drips 2;liked 3;");
        fine("strong -1*(((((1)))));drips -(1)*(((((1)))));liked 3;");
        fault("strong -(1*(((((1))))));drips 2;liked 3;", 14);
        fine("strong not not not not not 1 and not not not not not 1;drips 2;liked 3;");
        fine("strong not 1 or (((((1)))));drips not 1 and -----1;liked 3;");
        fault("strong not 1+(((((1)))));drips 2;liked 3;", 17);
        fault("strong not 1*-----1;drips 2;liked 3;", 17);
        fault("strong not 1<(((((1)))));drips 2;liked 3;", 17);
        fault("strong not 1=-----1;drips 2;liked 3;", 17);
        fine("strong not 1=----1;drips not 1<((((1))));liked 3;");
        fine("strong (not 1)<(((((1)))));drips 2;liked 3;");
        fine("strong not (1)=-(-(1)) and not (2)=-(-(1));drips 2;liked 3;");
        fault("strong not not not not not 1 and (not not not not not 1);drips 2;liked 3;", 50);
        fine("strong 1-1-1-1-1-1-1;drips 1-(1)-(1)-(1)-(1)-(1)-(1);liked 3;");
    }

    /** "or SUM, perhaps < or = and a SUM": one at most. */
    private static void oneComparison() {
        fine("strong 1<2;drips 1=2;liked 1+2<3*4 and 5=6 or 7<8;");
        fault("strong 1<2<3;drips 2;liked 3;", 10);
        fault("strong 1<2=3;drips 2;liked 3;", 10);
        fault("strong 1=2<3;drips 2;liked 3;", 10);
        fault("strong 1=2=3;drips 2;liked 3;", 10);
        fault("strong 1<=2;drips 2;liked 3;", 9);
        fault("strong 1==2;drips 2;liked 3;", 9);
        fault("strong not 1<2<3;drips 2;liked 3;", 14);
        fault("strong 1<2+3*4-5<3;drips 2;liked 3;", 16);
        fault("strong 1<not 2;drips 2;liked 3;", 9);
        fine("strong (1<2)<3;drips 1=(2=3);liked not 1<2 and not 1<2;");
    }

    private static void firstOfTwoFaults() {
        fault("strong ;drips 12345;liked 3;#", 7);
        fault("strong 1 12345 #", 9);
        fault("# strong", 0);
        fault("strong 1;drips 2;liked 3; ; #", 26);
        fault("strong 12345;;", 7);
        fault("strong ((((((((", 12);
        fault("strong (((((x((", 12);
        fault("strong 1;drips 2;liked", 22);
    }

    /** What an E is worth, when it is small; told by the first drib's strength. */
    private static void worth(String e, int want) {
        Run.of("set 1 0 1, rule strong " + e + ";drips 0;liked 0;").due("cup 0 1", want);
    }

    /** "An E is an int (32 bits, wrapping)" */
    private static void wraps() {
        worth(LEAST + "<0", 1);
        worth(LEAST + "-1<0", 0);
        worth("0<" + LEAST + "-1", 1);
        worth(LEAST + "-1+1=" + LEAST, 1);
        worth("-(" + LEAST + ")=" + LEAST, 1);
        worth("-(" + LEAST + ")<0", 1);
        worth(LEAST + "+" + LEAST, 0);
        worth(LEAST + "*2", 0);
        worth(LEAST + "*3=" + LEAST, 1);
        worth("256*256*256*256", 0);
        worth("256*256*256*256+5", 5);
        worth("not 4096*4096*4096", 1);
        worth(LEAST + "<" + LEAST + "-1", 1);
        worth(LEAST + "-1<" + LEAST, 0);
        worth("0-" + LEAST + "=" + LEAST, 1);
        worth("9999*9999*21<0", 0);
        worth("9999*9999*22<0", 1);
        worth("9999*9999*21+9999*9999<0", 1);
        worth("-9999*9999*21-9999*9999<0", 0);
        worth(LEAST + "-1", 999);
        worth(LEAST, 0);
    }

    /** "of or, and, not, <, = 1 or 0 (what is not 0 is true)" */
    private static void truths() {
        worth("5 or 0", 1);
        worth("0 or -5", 1);
        worth("0 or 0", 0);
        worth("5 and 7", 1);
        worth("-5 and -7", 1);
        worth("5 and 0", 0);
        worth("0 and 5", 0);
        worth("not 0", 1);
        worth("not 1", 0);
        worth("not -1", 0);
        worth("not 9", 0);
        worth("1<1", 0);
        worth("1<2", 1);
        worth("-1<0", 1);
        worth("0<-1", 0);
        worth("1=1", 1);
        worth("1=2", 0);
        worth("-0=0", 1);
        worth("(5 or 0)+(1<2)+(not 0)+(3=3)+(5 and 7)", 5);
        worth("7+(0 or 0)+(2<1)+(not 5)+(3=4)+(5 and 0)+(not -1)+(0 and 5)+(1<1)", 7);
        worth("2 or 0 and 0", 1);
        worth("(2 or 0) and 0", 0);
        worth("not 0 or 1", 1);
        worth("not (0 or 1)", 0);
        worth("not 2<1", 1);
        worth("(not 2)<1", 1);
        worth("not 1<2", 0);
        worth("not 3=4 and not 0", 1);
        worth("10-4-3", 3);
        worth("10-(4-3)", 9);
        worth("2+3*4", 14);
        worth("2*3+4", 10);
        worth("-2+3", 1);
        worth("-2*-3", 6);
        worth("2--3", 5);
        worth("1+2<4", 1);
        worth("4<1+2", 0);
    }

    /** "strong: how strong the drib is (0 .. 999, else the bound)" */
    private static void strongBounds() {
        worth("998", 998);
        worth("999", 999);
        worth("1000", 999);
        worth("9999*9999", 999);
        worth("1", 1);
        worth("0", 0);
        worth("-1", 0);
        worth("-9999", 0);
    }

    /** What stays of a drib that has so much and changes, when drips is so. */
    private static void stays(String strong, String drips, int stays, int dripped) {
        Run.of("rule strong " + strong + ";drips " + drips + ";liked 0;, row 01").due("cup 1 1", stays).due("all 3", dripped);
        Run.of("rule strong " + strong + ";drips " + drips + ";liked 0;, row 11").due("all 3", 0);
    }

    /** "(0 .. 999, else the bound; no more than the drib has)", "if the drib goes into another CUP than was" */
    private static void dripsBounds() {
        stays("50", "0", 50, 0);
        stays("50", "1", 49, 1);
        stays("50", "49", 1, 49);
        stays("50", "50", 0, 50);
        stays("50", "51", 0, 50);
        stays("50", "999", 0, 50);
        stays("50", "1000", 0, 50);
        stays("50", "-1", 50, 0);
        stays("50", LEAST, 50, 0);
        stays("999", "998", 1, 998);
        stays("999", "999", 0, 999);
        stays("999", "1000", 0, 999);
        stays("0", "5", 0, 0);
        stays("-5", "5", 0, 0);
        stays("2000", "1", 998, 1);
        // What is drawn comes on top of 999, so that drips has a bound of its own.
        int z = 5 * 1103515245 + 12345;
        int first = (z >>> 10) % 21;
        int second = (z * 1103515245 + 12345 >>> 10) % 21;
        Run.of("rule strong 999;drips 9999;liked 0;, row 01").due("drawn 5 20", 999 + first - second);
        Run.of("rule strong 9999;drips 0;liked 0;, row 01").due("drawn 5 20", Math.abs(first - second));
        Run.of("rule strong -99;drips 0;liked 0;, row 00").due("drawn 5 20", first + second);
    }

    /** "liked: .. (0 .. 9999, else the bound)" */
    private static void likedBounds() {
        String[] told = {"9998", "9999", "9999+1", "9999*9999", "1", "0", "-1", LEAST, LEAST + "-1"};
        int[] wants = {9998, 9999, 9999, 9999, 1, 0, 0, 0, 9999};
        for (int k = 0; k < told.length; k++) {
            Run.of("rule strong 0;drips 0;liked " + told[k] + ";").due("cup 0 2", wants[k]).due("cup 1 2", wants[k]).due("all 1", 2 * wants[k]);
        }
    }

    /** "drib: its number; dribs, cups: how many there are; .. full: .. by then; was: .. (that CUP itself, if none was)" */
    private static void namesOfDribs() {
        String last = "row 000000000000000000000001, set 0 0 4, lay 0 3, lay 22 2, lay 23 3";
        Run.of("rule strong drib;drips 0;liked 0;", last).due("cup 3 1", 0 + 23);
        Run.of("rule strong dribs;drips 0;liked 0;", last).due("cup 3 1", 24 + 24);
        Run.of("rule strong cups;drips 0;liked 0;", last).due("cup 3 1", 4 + 4);
        Run.of("rule strong cup;drips 0;liked 0;", last).due("cup 3 1", 3 + 3).due("cup 2 1", 2).due("cup 0 1", 0);
        Run.of("rule strong full;drips 0;liked 0;", last).due("cup 3 1", 0 + 1).due("cup 0 1", 20 * 21 / 2);
        Run.of("rule strong was;drips 0;liked 0;", last).due("cup 3 1", 3 + 2).due("cup 2 1", 0).due("cup 0 1", 3);
        Run.of("rule strong full;drips 0;liked 0;, set 1 0 24").due("cup 0 1", 23 * 24 / 2);
        Run.of("rule strong 500;drips drib*100+full*10+was;liked 0;, row 1011").due("cup 0 1", 500 - 101).due("all 3", 101 + 210);
        Run.of("set 0 0 4, rule strong was;drips 0;liked 0;, set 1 0 1, lay 0 3").due("cup 3 1", 3);
    }

    /** "Of a CUP at the end: drib: DRIBS; full: FULL; was: itself." */
    private static void namesOfCups() {
        for (int dribs = 0; dribs <= 24; dribs += 8) {
            String row = "set 0 0 4, set 1 0 " + dribs;
            Run.of(row, "rule strong 0;drips 0;liked drib;").due("cup 0 2", dribs).due("cup 3 2", dribs);
            Run.of(row, "rule strong 0;drips 0;liked dribs;").due("cup 0 2", dribs).due("cup 3 2", dribs);
            Run.of(row, "rule strong 0;drips 0;liked full;").due("cup 0 2", dribs).due("cup 3 2", 0);
            Run.of(row, "rule strong 0;drips 0;liked was;").due("cup 0 2", 0).due("cup 3 2", 3);
            Run.of(row, "rule strong 0;drips 0;liked cup;").due("cup 0 2", 0).due("cup 3 2", 3);
            Run.of(row, "rule strong 0;drips 0;liked cups;").due("cup 0 2", 4).due("cup 3 2", 4);
        }
    }
}
