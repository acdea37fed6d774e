/** Term IV sentence by sentence, at each bound, just inside and just outside it; promises 31 to 34. */
public final class QuestionBoundaryTest {
    private static final int NONE = LentStairs.NONE;
    private static final int NOTHING = LentStairs.NOTHING;
    private static final int[] FAR = {Integer.MIN_VALUE, -1000000000, -2, 1000, Integer.MAX_VALUE};
    private static final String AB = "tower a steps 14;tower b steps 3;";

    public static void main(String[] args) {
        daysAhead();
        withoutActs();
        firstLastOften();
        sumsOfDays();
        orAnd();
        facts();
        sums();
        numbers();
        plainParts();
        partsOfNumbers();
        nothingOfNumbers();
        fromTheLeft();
        quotients();
        bounds();
        partBounds();
        minMax();
        faultsOne();
        behindIt();
        endsTooSoon();
        openAtOnce();
        openUntil();
        fullTape();
        imageBytes();
        imagePurses();
        imageLoans();
        imageCheck();
        asks();
        images();
        octets();
        statuses();
        callsInAll();
        Check.told("IV", "31", "32", "33", "34", "What it is");
        Check.finish();
    }

    private static void says(String part, String words) {
        Check.says(part, words);
    }

    private static void due(String what, long got, long want) {
        Check.due(what, got, want);
    }

    private static void due(String what, boolean got, boolean want) {
        Check.due(what, got, want);
    }

    /** Each on a new object, so that none is used too long. */
    private static void most(String sum, long want) {
        Check.asks(new LentStairs(), "most " + sum, want);
    }

    private static void fault(String text, int number, int place) {
        Check.askFault(new LentStairs(), text, number, place);
    }

    private static void goFar(LentStairs x, int days) {
        int left = days;
        while (left > 0) {
            int now = Math.min(left, 100);
            due("go " + now, x.go(now) >= 0, true);
            left -= now;
        }
    }

    private static void daysAhead() {
        says("IV", "(100 on at most, 999 at most; the end of each, now as it is)");
        int[][] want = {{0, 101, 100}, {1, 101, 101}, {898, 101, 998}, {899, 101, 999}, {900, 100, 999}, {901, 99, 999},
            {998, 2, 999}, {999, 1, 999}};
        for (int[] one : want) {
            LentStairs x = new LentStairs();
            goFar(x, one[0]);
            Check.asks(x, "often all", one[1]);
            Check.asks(x, "first all", one[0]);
            Check.asks(x, "last all", one[2]);
            Check.asks(x, "least day", one[0]);
            Check.asks(x, "most day", one[2]);
            due("the DAY stays", x.has(5), one[0]);
        }
    }

    private static void withoutActs() {
        says("IV", "of all DAYS from now on, as they go by without other ACTS");
        LentStairs x = Check.of(AB + "gap 1 of b;guard g of b legs 1 rope 0;bends 2;loan 1 of a to b days 2 rent 5;"
                + "loan 2 of a to b days 99 rent 1;loan 3 of a to b days 1 rent 0;");
        Check.asks(x, "last held = 2", 1);
        Check.asks(x, "first bent > 0", 2);
        Check.asks(x, "first bent > 1", 99);
        Check.asks(x, "most purse 0", 109);
        Check.asks(x, "first purse 0 = 109", 99);
        Check.asks(x, "total lent", 102);
        Check.asks(x, "total yard", 100);
        Check.asks(x, "first stands 0 = 12", 1);
        Check.asks(x, "last stands 0 = 12", 100);
        due("DAY", x.has(5), 0);
        due("PURSE", x.purse(0), 0);
        due("LOANS", x.has(3), 3);
        due("BENT", x.has(7), 0);
        due("ACTS", x.has(9), 0);
        due("days left", x.loan(0, 3), 2);
    }

    private static void firstLastOften() {
        says("IV", "first TEST, last TEST (the first, the last DAY in which it holds), often TEST (in how many)");
        LentStairs x = new LentStairs();
        Check.asks(x, "first day = 0", 0);
        Check.asks(x, "last day = 0", 0);
        Check.asks(x, "first day = 100", 100);
        Check.asks(x, "last day = 100", 100);
        Check.asks(x, "first day > 50", 51);
        Check.asks(x, "last day < 50", 49);
        Check.asks(x, "often day < 50", 50);
        Check.asks(x, "often day > 50", 50);
        Check.asks(x, "often day = 50", 1);
        Check.asks(x, "often all", 101);
        Check.asks(x, "often day = 101", 0);
        Check.asks(x, "first day = 101", NONE);
        Check.asks(x, "last day = 101", NONE);
    }

    private static void sumsOfDays() {
        says("IV", "total SUM (of all together), most SUM, least SUM (the greatest, the least of all).");
        LentStairs x = new LentStairs();
        Check.asks(x, "total day", 5050);
        Check.asks(x, "most day", 100);
        Check.asks(x, "least day", 0);
        Check.asks(x, "most 50 - day", 50);
        Check.asks(x, "least 50 - day", -50);
        Check.asks(x, "total 50 - day", 0);
        Check.asks(x, "most 0 - 1", -1);
        Check.asks(x, "least 1", 1);
        Check.asks(x, "total 0", 0);
        says("IV", "(of all together)");
        Check.asks(x, "total 1000 * 1000", 101000000);
        Check.asks(x, "total 0 - 1000 * 1000", -101000000);
    }

    private static void orAnd() {
        says("IV", "TEST: BOTH { or BOTH }. BOTH: FACT { and FACT }.");
        String[] truths = {"1=1", "1=0"};
        for (int bits = 0; bits < 8; bits++) {
            boolean a = (bits & 1) == 0;
            boolean b = (bits & 2) == 0;
            boolean c = (bits & 4) == 0;
            String p = truths[bits & 1];
            String q = truths[bits >> 1 & 1];
            String r = truths[bits >> 2];
            LentStairs x = new LentStairs();
            Check.asks(x, "often " + p + " or " + q + " and " + r, a || b && c ? 101 : 0);
            Check.asks(x, "often " + p + " and " + q + " or " + r, a && b || c ? 101 : 0);
            Check.asks(x, "often [" + p + " or " + q + "] and " + r, (a || b) && c ? 101 : 0);
            Check.asks(x, "often " + p + " and " + q + " and " + r, a && b && c ? 101 : 0);
            Check.asks(x, "often " + p + " or " + q + " or " + r, a || b || c ? 101 : 0);
            Check.asks(x, "often not " + p + " and " + q, !a && b ? 101 : 0);
            Check.asks(x, "often not [" + p + " and " + q + "]", !(a && b) ? 101 : 0);
        }
        fault("often or 1=1", 1, 6);
        fault("often 1=1 or", 1, 12);
        fault("often 1=1 and", 1, 13);
        fault("often 1=1 and or 1=1", 1, 14);
    }

    private static void facts() {
        says("IV", "FACT: not FACT; [ TEST ] ; all; SUM SIGN SUM, SIGN < or > or = .");
        LentStairs x = new LentStairs();
        Check.asks(x, "often day<50", 50);
        Check.asks(x, "often day>50", 50);
        Check.asks(x, "often day=50", 1);
        Check.asks(x, "often not day=50", 100);
        Check.asks(x, "often not not day=50", 1);
        Check.asks(x, "often [all]", 101);
        Check.asks(x, "often not[all]", 0);
        fault("often day<=50", 1, 10);
        fault("often day!50", 1, 9);
        fault("often day 50", 1, 10);
        fault("often day<50<60", 1, 12);
        fault("often []", 1, 7);
        fault("often [day]", 1, 10);
        fault("often (day<50)", 1, 10);
        fault("often [day]<50", 1, 10);
    }

    private static void sums() {
        says("IV", "SUM: PRODUCT { + or - PRODUCT }. PRODUCT: PART { * or / PART }.");
        most("7", 7);
        most("7+1", 8);
        most("7-8", -1);
        most("2*3+4*5", 26);
        most("2+3*4+5", 19);
        most("2*(3+4)*5", 70);
        fault("most", 1, 4);
        fault("most +7", 1, 5);
        fault("most -7", 1, 5);
        fault("most 7+", 1, 7);
        fault("most 7++7", 1, 7);
        fault("most 7*", 1, 7);
        fault("most 7*/7", 1, 7);
        fault("most ()", 1, 6);
        fault("most 7%7", 1, 6);
    }

    private static void numbers() {
        says("IV", "N (1 to 4 digits)");
        most("0", 0);
        most("9", 9);
        most("9999", 9999);
        most("0000", 0);
        most("0009", 9);
        fault("most 00009", 1, 9);
        fault("most 10000", 1, 9);
        fault("most 7+10000", 1, 11);
        fault("most purse 10000", 1, 15);
        fault("most 9999 9999", 1, 10);
        fault("most 9999 10000", 1, 10);
    }

    private static void plainParts() {
        says("IV", "(The DAY; how many TOWERS are HELD, LOANS have not ENDED, STEPS are BENT, lie in yards then;");
        LentStairs x = new LentStairs();
        for (String part : new String[] {"held", "lent", "bent", "yard"}) {
            Check.asks(x, "total " + part, 0);
        }
        LentStairs y = Check.of(AB + "bends 1;loan 1 of a to b days 1 rent 0;");
        y.lend(0, 2, 1, 1, 0);
        y.lend(1, 1, 0, 2, 0);
        Check.asks(y, "most held", 2);
        Check.asks(y, "most lent", 3);
        Check.asks(y, "last lent = 1", 1);
        Check.asks(y, "most yard", 2);
        Check.asks(y, "last yard > 0", 0);
        Check.asks(y, "most bent", 3);
        Check.asks(y, "first bent = 3", 2);
        Check.asks(y, "first bent = 2", 1);
    }

    private static void partsOfNumbers() {
        says("IV", "the PURSE of the TOWER of that number, on how many of its STEPS one can stand, the STEP that the GUARD of that"
                + " number REACHES by day, without ROPE, then;");
        LentStairs x = Check.of(AB + "gap 1 of b;guard g of a legs 6 rope 0;guard h of b legs 1 rope 6;loan 14 of a to b days 3 rent 9;");
        Check.asks(x, "most purse 0", 27);
        Check.asks(x, "least purse 1", -27);
        Check.asks(x, "most stands 0", 14);
        Check.asks(x, "least stands 0", 13);
        Check.asks(x, "most stands 1", 3);
        Check.asks(x, "least stands 1", 2);
        Check.asks(x, "least reach 0", 13);
        Check.asks(x, "first reach 0 = 14", 3);
        Check.asks(x, "most reach 1", 3);
        Check.asks(x, "first reach 1 = 0", 3);
        Check.asks(x, "most purse (1 - 1)", 27);
        Check.asks(x, "most purse min(5, 0)", 27);
        Check.asks(x, "most purse 0 + 1", 28);
        Check.asks(x, "most 2 * purse 0", 54);
        Check.asks(x, "most stands purse 1", 13);
    }

    private static void nothingOfNumbers() {
        says("IV", "0 of numbers that there are not.)");
        LentStairs x = Check.of(AB + "guard g of a legs 6 rope 0;loan 1 of a to b days 9 rent 1;");
        Check.asks(x, "most purse 0", 9);
        Check.asks(x, "least purse 1", -9);
        for (String part : new String[] {"purse", "stands", "reach"}) {
            Check.asks(x, "total " + part + " 2", 0);
            Check.asks(x, "total " + part + " 4", 0);
            Check.asks(x, "total " + part + " 8", 0);
            Check.asks(x, "total " + part + " 9999", 0);
            Check.asks(x, "total " + part + " (0 - 1)", 0);
            Check.asks(x, "total " + part + " (9999 * 9999)", 0);
            Check.asks(x, "total " + part + " (0 - 9999 * 9999)", 0);
        }
        Check.asks(x, "total reach 1", 0);
        Check.asks(x, "least reach 0", 14);
        LentStairs none = new LentStairs();
        Check.asks(none, "total purse 0 + stands 0 + reach 0", 0);
    }

    private static void fromTheLeft() {
        says("IV", "All from the left on");
        most("10-3-2", 5);
        most("10-3+2", 9);
        most("7/4*2", 2);
        most("2*7/4", 3);
        most("100/10/5", 2);
        most("9999*9999-9999*9999+1", 1);
        most("1-9999*9999+9999*9999", 1);
    }

    private static void quotients() {
        says("IV", "/ gives the greatest whole number not above, by 0 it gives 0;");
        long[][] want = {{6, 3, 2}, {7, 3, 2}, {5, 3, 1}, {1, 2, 0}, {0, 5, 0}, {5, 0, 0}, {0, 0, 0}, {9999, 0, 0}};
        for (long[] one : want) {
            most(one[0] + "/" + one[1], one[2]);
        }
        most("(0-6)/3", -2);
        most("(0-5)/3", -2);
        most("(0-7)/3", -3);
        most("(0-1)/9999", -1);
        most("1/(0-9999)", -1);
        most("7/(0-3)", -3);
        most("6/(0-3)", -2);
        most("(0-7)/(0-3)", 2);
        most("(0-5)/0", 0);
        most("5/(3-3)", 0);
        most("9999*9999/1", 1000000);
        most("(0-9999*9999)/1", -1000000);
        most("(0-9999*9999)/(0-1)", 1000000);
        most("9999*9999/(0-1)", -1000000);
    }

    private static void bounds() {
        says("IV", "each PART but N, each sum, difference, product above 10 to the 6 is that, below -10 to the 6 likewise.");
        // 999900 is 9999 * 100
        most("9999*100+99", 999999);
        most("9999*100+100", 1000000);
        most("9999*100+101", 1000000);
        most("9999*100+101-101", 999899);
        most("9999*100+100-100", 999900);
        most("1000*1000", 1000000);
        most("1000*1000-1", 999999);
        most("1001*1000-1", 999999);
        most("1001*999", 999999);
        most("1001*1000/1000", 1000);
        most("0-9999*100-99", -999999);
        most("0-9999*100-100", -1000000);
        most("0-9999*100-101", -1000000);
        most("0-9999*100-101+101", -999899);
        most("(0-1000)*1000", -1000000);
        most("(0-1001)*1000+1", -999999);
        most("(0-1001)*999", -999999);
        most("(0-9999*9999)*(0-9999*9999)", 1000000);
        most("9999*9999*(0-9999*9999)", -1000000);
        most("9999*9999+9999*9999-1", 999999);
        most("0-9999*9999-9999*9999+1", -999999);
        most("(1000*1000+1)-1", 999999);
    }

    private static void partBounds() {
        says("IV", "each PART but N");
        StringBuilder text = new StringBuilder("tower a steps 14;tower b steps 14;");
        for (int s = 1; s <= 12; s++) {
            text.append("loan ").append(s).append(" of a to b days 99 rent 99;");
        }
        LentStairs x = Check.of(text.toString());
        due("a 13th", x.lend(0, 13, 1, 99, 99), 12);
        due("a 14th", x.lend(0, 14, 1, 99, 99), 13);
        Check.asks(x, "most purse 0", 14 * 99 * 99);
        Check.asks(x, "least purse 1", -14 * 99 * 99);
        Check.asks(x, "most purse 0 * 7 + 9999 * 3", 14 * 99 * 99 * 7 + 29997);
        Check.asks(x, "most purse 0 * 8", 1000000);
        Check.asks(x, "least purse 1 * 8", -1000000);
    }

    private static void minMax() {
        says("IV", "min ( SUM , SUM ) ; max ( SUM , SUM ) .");
        most("min(3,4)", 3);
        most("min(4,3)", 3);
        most("max(3,4)", 4);
        most("max(4,3)", 4);
        most("min(3,3)", 3);
        most("max(0-3,0-4)", -3);
        most("min(0-3,0-4)", -4);
        most("min(1+2*3,max(4,5)*2)+1", 8);
        fault("most min", 1, 8);
        fault("most min 3", 1, 9);
        fault("most min(", 1, 9);
        fault("most min(3", 1, 10);
        fault("most min(3)", 1, 10);
        fault("most min(3,", 1, 11);
        fault("most min(3,)", 1, 11);
        fault("most min(3,4", 1, 12);
        fault("most min(3,4,5)", 1, 12);
        fault("most min[3,4]", 1, 8);
        fault("most (3,4)", 1, 7);
    }

    private static void faultsOne() {
        says("IV", "Its FAULTS: 1 as in I (an unknown word at its first byte; what stands behind it, too)");
        fault("x", 1, 0);
        fault("firsts all", 1, 0);
        fault("firs all", 1, 0);
        fault("First all", 1, 0);
        fault(" all", 1, 1);
        fault("7", 1, 0);
        fault("12345", 1, 0);
        fault("first nott all", 1, 6);
        fault("first no all", 1, 6);
        fault("first alll", 1, 6);
        fault("most days", 1, 5);
        fault("most abcdefghi", 1, 5);
        fault("most tower", 1, 5);
        fault("most first", 1, 5);
        fault("first all andd all", 1, 10);
        fault("first 1=1 oror 1=1", 1, 10);
        fault("most 5day", 1, 6);
        fault("most day5", 1, 8);
        fault("most purse0", 1, 10);
        fault("first 1=1and all", 1, 9);
        fault("first 1=1or all", 1, 9);
        fault("mostday", 1, 0);
        fault("most7", 1, 4);
        fault("most\t7", 1, 4);
        fault("most 7\0", 1, 6);
        fault("most \u00ff", 1, 5);
        Check.asks(new LentStairs(), "\n most(7)\n", 7);
        Check.asks(new LentStairs(), "first[1=1]and[2=2]or all", 0);
    }

    private static void behindIt() {
        says("IV", "what stands behind it, too");
        fault("most 7;", 1, 6);
        fault("most 7 ;", 1, 7);
        fault("most 7 7", 1, 7);
        fault("most 7 day", 1, 7);
        fault("most 7)", 1, 6);
        fault("most 7=7", 1, 6);
        fault("first all all", 1, 10);
        fault("first all 7", 1, 10);
        fault("first all]", 1, 9);
        fault("first all + 7", 1, 10);
        fault("first 1=1 12345", 1, 10);
        fault("first 1=1 abcdefgh", 1, 10);
        Check.asks(new LentStairs(), "most 7 \n ", 7);
    }

    private static void endsTooSoon() {
        says("IV", "1 as in I");
        String text = "first not [ 1 < day or all and max ( 2 , purse 3 ) = ( 4 ) ]";
        Check.asks(new LentStairs(), text, 0);
        for (int cut = 0; cut < text.length(); cut++) {
            String part = text.substring(0, cut);
            boolean inWord = cut > 0 && Character.isLetter(text.charAt(cut - 1)) && Character.isLetter(text.charAt(cut));
            int place = cut;
            while (inWord && place > 0 && Character.isLetter(part.charAt(place - 1))) {
                place--;
            }
            fault(part, 1, place);
            fault(part + "  ", 1, inWord ? place : cut + 2);
        }
    }

    private static void openAtOnce() {
        says("IV", "4 the 7th of ( [ not purse stands reach that is open at once");
        String[] sumOpeners = {"(", "purse ", "stands ", "reach ", "min(1,", "max("};
        for (String opener : sumOpeners) {
            String closer = opener.equals("(") || opener.startsWith("mi") ? ")" : opener.startsWith("ma") ? ",1)" : "";
            for (int n = 5; n <= 6; n++) {
                LentStairs x = new LentStairs();
                due(n + " of " + opener, Check.ask(x, "total " + opener.repeat(n) + "1" + closer.repeat(n)) != NOTHING, true);
                due("no FAULT", x.fault(0), 0);
            }
            int paren = opener.indexOf('(');
            int place = 6 + 6 * opener.length() + Math.max(0, paren);
            fault("total " + opener.repeat(7) + "1" + closer.repeat(7), 4, place);
            fault("total " + opener.repeat(7), 4, place);
            fault("total " + opener.repeat(6) + opener.trim(), 4, place);
            fault("total " + opener.repeat(6), 1, 6 + 6 * opener.length());
        }
        for (String opener : new String[] {"[", "not "}) {
            String closer = opener.equals("[") ? "]" : "";
            Check.asks(new LentStairs(), "often " + opener.repeat(6) + "all" + closer.repeat(6), 101);
            fault("often " + opener.repeat(7) + "all" + closer.repeat(7), 4, 6 + 6 * opener.length());
        }
        Check.asks(new LentStairs(), "often not [ not [ purse ( 1 ) = 0 ] ]", 101);
        fault("often not [ not [ purse ( ( 1 ) ) = 0 ] ]", 4, 26);
        fault("often not [ not [ purse ( reach 1 ) = 0 ] ]", 4, 26);
        fault("often not [ not [ purse ( min ( 1 , 1 ) ) = 0 ] ]", 4, 30);
        Check.asks(new LentStairs(), "often not [ not [ purse min ( 1 , 1 ) = 0 ] ]", 101);
        fault("first [ [ [ [ [ [ 1 = ( 1 ) ] ] ] ] ] ]", 4, 22);
    }

    private static void openUntil() {
        says("IV", "(not until its FACT, purse, stands, reach until their PART ends), at it.");
        String six = "((((((1))))))";
        Check.asks(new LentStairs(), "most " + six + "+" + six, 2);
        Check.asks(new LentStairs(), "most (((((" + "(1)+(1)+purse 1" + ")))))", 2);
        fault("most (((((purse (1)", 4, 16);
        Check.asks(new LentStairs(), "often not not not not not not all and not not not not not not all", 101);
        Check.asks(new LentStairs(), "often not not not not not not all or not not not not not not all", 101);
        Check.asks(new LentStairs(), "often not not not not not (1) = (1)", 0);
        fault("often not not not not not not (1) = 1", 4, 30);
        fault("often not not not not not not 1 = (1)", 4, 34);
        Check.asks(new LentStairs(), "often not not not not not not 1 = 1 and (1) = 1", 101);
        Check.asks(new LentStairs(), "most purse purse purse purse purse purse 1 + purse purse purse purse purse purse 1", 0);
        Check.asks(new LentStairs(), "most purse purse purse purse purse purse 1 * (1)", 0);
        fault("most purse purse purse purse purse purse (1)", 4, 41);
        Check.asks(new LentStairs(), "most min(1,2)+min(1,2)+min(1,2)+min(1,2)+min(1,2)+min(1,2)+min(1,2)", 7);
        Check.asks(new LentStairs(), "most min((((((1))))),(((((2))))))", 1);
        fault("most min((((((1))))),((((((2)))))))", 4, 26);
        Check.asks(new LentStairs(), "often [all] and [all] and [all] and [all] and [all] and [all] and [all]", 101);
        Check.asks(new LentStairs(), "often not all or not all or not all or not all or not all or not all or not all or all", 101);
    }

    private static void fullTape() {
        says("31", "The tape (it goes) is a QUESTION: its answer");
        String ones = "total 1" + "+1".repeat(796);
        Check.asks(new LentStairs(), ones + " ", 797 * 101);
        Check.asks(new LentStairs(), " ".repeat(1600 - 7) + "total 1", 101);
        fault(" ".repeat(1600 - 6) + "total ", 1, 1600);
        Check.asks(new LentStairs(), "often all" + " and all".repeat(198), 101);
        Check.asks(new LentStairs(), "most " + "0-".repeat(797) + "1", -1);
        String deep = "often not all or all and [not all or all and [not all or all and [1<2+3*(1+1*(1+1*(1+1)))]]]";
        Check.asks(new LentStairs(), deep, 101);
        Check.asks(new LentStairs(), "most 1+1*min(0,1+1*min(0,1+1*min(0,1+1*min(0,1+1*min(0,1+1*min(0,1+1*1))))))", 1);
        Check.asks(new LentStairs(), "most 1+1*max(0,1+1*max(0,1+1*max(0,1+1*max(0,1+1*max(0,1+1*max(0,1+1*1))))))", 8);
    }

    private static void imageBytes() {
        says("IV", "AN IMAGE: DAY (two bytes, the higher first); for each TOWER its PURSE (four bytes, the highest first),"
                + " for each STEP how it is; how many LOANS;");
        LentStairs x = Check.of("tower a steps 3;tower b steps 4;gap 2 of b;bends 1;loan 1 of a to b days 1 rent 0;");
        x.go(1);
        x.lend(0, 3, 1, 9, 0);
        int[] want = {0, 1, 0, 0, 0, 0, 3, 0, 2, 0, 0, 0, 0, 0, 1, 0, 0, 2};
        due("bytes", x.image(), want.length + 16 + 1);
        for (int k = 0; k < want.length; k++) {
            due("byte " + k, x.octet(k), want[k]);
        }
        for (int day : new int[] {0, 255, 256, 511, 512, 998, 999}) {
            LentStairs y = new LentStairs();
            goFar(y, day);
            due("bytes", y.image(), 4);
            due("the higher", y.octet(0), day / 256);
            due("the lower", y.octet(1), day % 256);
            due("no LOANS", y.octet(2), 0);
        }
    }

    private static void imagePurses() {
        says("IV", "its PURSE (four bytes, the highest first)");
        int[] purses = {1, 255, 256, 9801};
        int[][] rents = {{1, 1}, {85, 3}, {64, 4}, {99, 99}};
        for (int i = 0; i < purses.length; i++) {
            LentStairs x = Check.of("tower a steps 3;tower b steps 3;loan 1 of a to b days " + rents[i][1] + " rent " + rents[i][0] + ";");
            x.go(rents[i][1]);
            due("PURSE", x.purse(0), purses[i]);
            x.image();
            for (int k = 0; k < 4; k++) {
                due("byte " + k + " of " + purses[i], x.octet(2 + k), purses[i] >>> (24 - 8 * k) & 255);
                due("byte " + k + " of " + -purses[i], x.octet(9 + k), -purses[i] >>> (24 - 8 * k) & 255);
            }
        }
        StringBuilder text = new StringBuilder("tower a steps 14;tower b steps 14;bends 99;wood a costs 99;");
        for (int s = 1; s <= 12; s++) {
            text.append("loan ").append(s).append(" of a to b days 99 rent 99;");
        }
        LentStairs y = Check.of(text.toString());
        y.go(99);
        due("PURSE", y.purse(0), 117612);
        y.image();
        int[] above = {0, 1, 203, 108};
        int[] below = {255, 254, 52, 148};
        for (int k = 0; k < 4; k++) {
            due("byte " + k + " above", y.octet(2 + k), above[k]);
            due("byte " + k + " below", y.octet(2 + 4 + 14 + k), below[k]);
        }
    }

    private static void imageLoans() {
        says("IV", "for each the TOWER it is of, STEP, TOWER to, days left, rent, days away, where it FILLS (0 nowhere),"
                + " 1 if it has ENDED, else 0;");
        LentStairs x = Check.of(AB + "gap 2 of b;loan 14 of a to b days 99 rent 99;loan 1 of b to a days 1 rent 0;"
                + "loan 3 of a to b days 2 rent 7;");
        x.go(1);
        int[] want = {3, 0, 14, 1, 98, 99, 1, 2, 0, 1, 1, 0, 0, 0, 1, 0, 1, 0, 3, 1, 1, 7, 1, 1, 0};
        int at = 2 + 4 + 14 + 4 + 3;
        due("bytes", x.image(), at + want.length + 1);
        for (int k = 0; k < want.length; k++) {
            due("byte " + k, x.octet(at + k), want[k]);
        }
        LentStairs y = Check.of(AB);
        for (int i = 0; i < 24; i++) {
            y.lend(0, 1, 1, 1, 0);
            y.back(i);
        }
        due("24 LOANS", y.image(), at + 1 + 24 * 8 + 1);
        due("24", y.octet(at), 24);
        due("the last has ENDED", y.octet(at + 24 * 8), 1);
        due("the last's days left", y.octet(at + 24 * 8 - 4), 1);
    }

    private static void imageCheck() {
        says("IV", "last a byte: all ahead from 127 on, c = (3 c + it) mod 249.");
        // 127, 3 * 127 = 381 = 132, 396 = 147, 441 = 192
        LentStairs x = new LentStairs();
        x.image();
        due("of three zeros", x.octet(3), 192);
        x.go(1);
        x.image();
        // 132, 397 = 148, 444 = 195
        due("of 0 1 0", x.octet(3), 195);
        LentStairs y = Check.of("tower a steps 14;tower b steps 14;tower c steps 14;tower d steps 14;bends 1;wood d costs 99;"
                + "loan 1 of d to a days 1 rent 0;");
        y.go(1);
        y.refit(3, 1);
        int size = y.image();
        due("bytes", size, 2 + 4 * 18 + 1 + 8 + 1);
        int c = 127;
        for (int k = 0; k < size - 1; k++) {
            c = (3 * c + y.octet(k)) % 249;
        }
        due("of all ahead", y.octet(size - 1), c);
    }

    private static void asks() {
        says("31", "NONE of first, last, when its TEST holds in none; NOTHING with a FAULT.");
        LentStairs x = new LentStairs();
        Check.asks(x, "first not all", NONE);
        Check.asks(x, "last not all", NONE);
        Check.asks(x, "often not all", 0);
        Check.asks(x, "first all", 0);
        Check.asks(x, "least 0 - 1", -1);
        Check.askFault(x, "first", 1, 5);
        due("an empty tape", x.ask(), NOTHING);
        due("its FAULT", x.fault(0), 1);
        due("its place", x.fault(1), 0);
        Check.asks(x, "most 1", 1);
        due("the tape went", x.end(1), false);
        Check.askFault(x, "most", 1, 4);
        due("the tape went, too", x.end(1), false);
        due("not refused as realm() is", x.status(1), 0);
        due("refused: end() twice", x.status(0), 2);
    }

    private static void images() {
        says("32", "AN IMAGE is written: how many bytes.");
        due("the shortest", new LentStairs().image(), 4);
        due("of a TOWER", Check.of("tower a steps 3;").image(), 4 + 4 + 3);
        due("of a higher one", Check.of("tower a steps 14;").image(), 4 + 4 + 14);
        LentStairs x = Check.of("tower a steps 14;tower b steps 14;tower c steps 14;tower d steps 14;guard g of a legs 1 rope 0;");
        due("of four", x.image(), 4 + 4 * 18);
        for (int i = 0; i < 24; i++) {
            x.lend(0, 1, 1, 1, 0);
            x.back(i);
            due("of LOANS", x.image(), 4 + 4 * 18 + 8 * (i + 1));
        }
        due("the longest", x.image(), 268);
        due("its last", x.octet(267) != NONE, true);
        due("behind", x.octet(268), NONE);
        x.undo();
        x.undo();
        due("one LOAN less", x.image(), 260);
        due("behind a shorter one", x.octet(260), NONE);
    }

    private static void octets() {
        says("33", "Byte k of the latest image(); NONE when there is none such.");
        LentStairs x = new LentStairs();
        due("ahead of any", x.octet(0), NONE);
        due("four", x.image(), 4);
        due("below", x.octet(-1), NONE);
        due("the first", x.octet(0), 0);
        due("the last", x.octet(3), 192);
        due("behind", x.octet(4), NONE);
        for (int far : FAR) {
            due("far", x.octet(far), NONE);
        }
        x.go(1);
        Check.realm(x, "tower a steps 3;");
        x.go(2);
        due("the latest stays", x.octet(3), 192);
        due("it does not grow", x.octet(4), NONE);
        due("a new one", x.image(), 11);
        due("DAY", x.octet(1), 2);
    }

    private static void statuses() {
        says("34", "How many were refused: 0 feed(), end(); 1 realm(); 2 lend(), back(), refit(), go(); 3 undo(). NONE for others.");
        LentStairs x = Check.of(AB);
        int[] want = {0, 0, 0, 0};
        for (int turn = 0; turn < 3; turn++) {
            x.end(-1);
            want[0]++;
            dueStatus(x, want);
            x.end(0);
            x.feed(0x3b3b3b3b, 0, 0, 0, 0);
            x.realm();
            want[1]++;
            dueStatus(x, want);
            x.lend(0, 0, 0, 0, 0);
            want[2]++;
            dueStatus(x, want);
            x.back(0);
            want[2]++;
            dueStatus(x, want);
            x.refit(0, 1);
            want[2]++;
            dueStatus(x, want);
            x.go(0);
            want[2]++;
            dueStatus(x, want);
            x.undo();
            want[3]++;
            dueStatus(x, want);
            x.ask();
            x.octet(-1);
            x.has(-1);
            x.purse(-1);
            x.rents(0, -1);
            x.rescue(-2, 0);
            dueStatus(x, want);
        }
        due("a REALM", Check.realm(x, AB), 2);
        dueStatus(x, want);
        due("below", x.status(-1), NONE);
        due("behind", x.status(4), NONE);
        for (int far : FAR) {
            due("far", x.status(far), NONE);
        }
    }

    private static void dueStatus(LentStairs x, int[] want) {
        for (int what = 0; what < want.length; what++) {
            due("status " + what, x.status(what), want[what]);
        }
    }

    private static void callsInAll() {
        says("What it is", "An object is used for at most 512 calls after it has been made");
        LentStairs x = new LentStairs();
        for (int call = 1; call <= 510; call++) {
            due("undo", x.undo(), false);
        }
        due("call 511", x.status(3), 510);
        due("call 512", x.image(), 4);
        LentStairs y = new LentStairs();
        for (int call = 1; call <= 511; call++) {
            y.go(call % 2 == 0 ? 0 : 1);
        }
        due("call 512", y.has(5), 256);
    }
}
