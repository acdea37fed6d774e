/** Term I sentence by sentence, at each bound, just inside and just outside it; promises 1 to 5. */
public final class TextBoundaryTest {
    private static final int NONE = LentStairs.NONE;
    private static final int NOTHING = LentStairs.NOTHING;
    private static final String[] OWN_WORDS = {"tower", "steps", "wood", "costs", "gap", "of", "guard", "legs", "rope",
        "loan", "to", "days", "rent", "bends", "enemy", "odds"};
    private static final String AB = "tower a steps 14;tower b steps 3;";
    private static final String FOUR = "tower a steps 14;tower b steps 14;tower c steps 14;tower d steps 14;";

    public static void main(String[] args) {
        newObject();
        feeding();
        ending();
        bytesBehindTheEnd();
        fullTapes();
        statements();
        towers();
        woods();
        gaps();
        gapsTaken();
        guards();
        loans();
        loansTaken();
        bends();
        enemies();
        nameLengths();
        namesAlike();
        namesOwnWords();
        namesAhead();
        numbers();
        blanks();
        wordsSideBySide();
        firstAlong();
        noTextGoesOn();
        signTooSoon();
        asksNameOrNumber();
        endsTooSoon();
        numbersThatCantBe();
        namesThatCantBe();
        oneTooMany();
        realmGoes();
        realmStays();
        realmBegins();
        realmAnew();
        faults();
        Check.told("I", "1", "2", "3", "4", "5");
        Check.finish();
    }

    private static void says(String part, String words) {
        Check.says(part, words);
    }

    private static void due(String what, long got, long want) {
        Check.due(what, got, want);
    }

    private static void due(String what, boolean got, boolean want) {
        Check.due(what, got, want);
    }

    private static void fault(String text, int number, int place) {
        Check.realmFault(text, number, place);
    }

    private static int fill(LentStairs x, int feeds) {
        int length = 0;
        for (int i = 0; i < feeds; i++) {
            length = x.feed(0x20202020, 0x20202020, 0x20202020, 0x20202020, 0x20202020);
        }
        return length;
    }

    private static void newObject() {
        says("1", "No TOWERS.");
        LentStairs x = new LentStairs();
        int[] has = {0, 0, 0, 0, 99, 0, 0, 0, 0, 0};
        for (int what = 0; what < has.length; what++) {
            due("has " + what, x.has(what), has[what]);
        }
        due("tower 0", x.tower(0, 0), NONE);
        due("purse 0", x.purse(0), NOTHING);
        due("tape is empty: end(1)", x.end(1), false);
        due("tape is empty: end(0)", x.end(0), true);
    }

    private static void feeding() {
        says("2", "Twenty bytes come behind those on the tape, of each number the highest first: how many there are");
        LentStairs x = new LentStairs();
        // "bends 98;bends 97;  "
        due("first", x.feed(0x62656e64, 0x73203938, 0x3b62656e, 0x64732039, 0x373b2020), 20);
        due("second", x.feed(0x62656e64, 0x73203936, 0x3b202020, 0x20202020, 0x20202020), 40);
        due("read in this order", x.realm(), 3);
        due("the last is 96", x.has(4), 96);
        due("bytes above 127 are bytes", x.feed(0x20202020, 0x202020ff, -1, Integer.MIN_VALUE, Integer.MAX_VALUE), 20);
        due("bytes above 127", x.realm(), NONE);
        due("at the first of them", x.fault(1), 7);
        says("2", "NONE, refused (0), if there would be more than 1600");
        LentStairs y = new LentStairs();
        due("79 times", fill(y, 79), 1580);
        due("1600 is not more", y.feed(0, 0, 0, 0, 0), 1600);
        due("none refused", y.status(0), 0);
        due("1620 is more", y.feed(0, 0, 0, 0, 0), NONE);
        due("refused", y.status(0), 1);
        due("what was refused is not there: end(1601)", y.end(1601), false);
        due("all of it is there: end(1600)", y.end(1600), true);
        due("1581", y.end(1581), true);
        due("1601 is more", y.feed(0, 0, 0, 0, 0), NONE);
        due("1580", y.end(1580), true);
        due("1600 again", y.feed(0, 0, 0, 0, 0), 1600);
        due("refused", y.status(0), 3);
    }

    private static void ending() {
        says("3", "The tape has its first n bytes alone: true");
        LentStairs x = new LentStairs();
        due("nothing of nothing", x.end(0), true);
        fill(x, 1);
        due("all of it", x.end(20), true);
        due("one less", x.end(19), true);
        due("the 20th went", x.end(20), false);
        due("behind 19", x.feed(0x20202020, 0x20202020, 0x20202020, 0x20202020, 0x2020203b), 39);
        due("the rest is blank", x.realm(), NONE);
        due("the sign stands at 38", x.fault(1), 38);
        says("3", "false, refused (0), if it has not so many, or n is below 0");
        LentStairs y = new LentStairs();
        due("one of none", y.end(1), false);
        due("-1 of none", y.end(-1), false);
        fill(y, 1);
        due("one too many", y.end(21), false);
        due("far too many", y.end(Integer.MAX_VALUE), false);
        due("-1", y.end(-1), false);
        due("far below", y.end(Integer.MIN_VALUE), false);
        due("refused", y.status(0), 6);
        due("the tape stays", fill(y, 1), 40);
        due("not refused", y.end(40), true);
        due("refused", y.status(0), 6);
    }

    private static void bytesBehindTheEnd() {
        says("3", "The tape has its first n bytes alone");
        String text = "tower abcdef steps 14;";
        for (int cut = 0; cut <= text.length(); cut++) {
            LentStairs x = new LentStairs();
            Check.tape(x, text);
            due("cut", x.end(cut), true);
            LentStairs y = new LentStairs();
            Check.tape(y, text.substring(0, cut));
            due("realm of the first " + cut, x.realm(), y.realm());
            due("its FAULT", x.fault(0), y.fault(0));
            due("its place", x.fault(1), y.fault(1));
        }
        LentStairs z = new LentStairs();
        Check.tape(z, "bends 77;");
        due("bends 7", z.end(7), true);
        due("and a sign", z.feed(0x3b202020, 0x20202020, 0x20202020, 0x20202020, 0x20202020), 27);
        due("realm", z.realm(), 1);
        due("the second 7 went", z.has(4), 7);
        Check.tape(z, "total 77");
        due("total 7", z.end(7), true);
        due("ask", z.ask(), 707);
        Check.tape(z, "most days");
        due("most day", z.end(8), true);
        due("ask", z.ask(), 100);
    }

    private static void fullTapes() {
        says("2", "if there would be more than 1600");
        String[] last = {"t", "towe", "tower", "bends", "bends 7", "bends 7;", "abcdefgh", "12345", ";", "#"};
        int[] place = {1599, 1596, 1600, 1600, 1600, NONE, 1592, 1595, 1599, 1599};
        for (int i = 0; i < last.length; i++) {
            LentStairs x = new LentStairs();
            String text = " ".repeat(1600 - last[i].length()) + last[i];
            due("realm ends with " + last[i], Check.realm(x, text), place[i] == NONE ? 1 : NONE);
            due("FAULT of " + last[i], x.fault(0), place[i] == NONE ? 0 : 1);
            due("place of " + last[i], x.fault(1), place[i]);
        }
        Check.askFault(new LentStairs(), " ".repeat(1596) + "firs", 1, 1596);
        Check.askFault(new LentStairs(), " ".repeat(1595) + "first", 1, 1600);
        Check.askFault(new LentStairs(), "most" + " ".repeat(1594) + "mi", 1, 1598);
        Check.askFault(new LentStairs(), "most" + " ".repeat(1593) + "min", 1, 1600);
        Check.asks(new LentStairs(), "most" + " ".repeat(1593) + "day", 100);
        Check.asks(new LentStairs(), "most" + " ".repeat(1592) + "0007", 7);
        Check.askFault(new LentStairs(), "most" + " ".repeat(1591) + "00007", 1, 1599);
    }

    private static void statements() {
        says("I", "{ STATEMENT ; } (70 at most)");
        for (int n : new int[] {0, 1, 2, 69, 70}) {
            due(n + " STATEMENTS", Check.realm(new LentStairs(), "bends 7;".repeat(n)), n);
            due(n + " STATEMENTS, blanks behind", Check.realm(new LentStairs(), "bends 7;".repeat(n) + " \n"), n);
        }
        fault("bends 7;".repeat(71), 5, 560);
        fault("bends 7;".repeat(72), 5, 560);
        String whole = "bends 7;".repeat(69) + "bends 5;";
        LentStairs x = new LentStairs();
        due("a tape of 1600 bytes", Check.realm(x, whole + " ".repeat(1600 - whole.length())), 70);
        due("its last STATEMENT", x.has(4), 5);
        due("with its last sign last", Check.realm(x, " ".repeat(1600 - whole.length()) + whole), 70);
        due("without it", Check.realm(x, " ".repeat(1600 - 7) + "bends 7"), NONE);
        due("a FAULT", x.fault(0), 1);
        due("at 1600", x.fault(1), 1600);
    }

    /** Numbers from least to most are taken; one less, one more, 9999 are a FAULT 2 at the number. */
    private static void range(String ahead, int least, int most, String behind) {
        for (int n : new int[] {least, least + 1, most - 1, most}) {
            Check.of(ahead + n + behind);
        }
        if (least > 0) {
            fault(ahead + (least - 1) + behind, 2, ahead.length());
            fault(ahead + 0 + behind, 2, ahead.length());
        }
        fault(ahead + (most + 1) + behind, 2, ahead.length());
        fault(ahead + 9999 + behind, 2, ahead.length());
        fault(ahead + "-1" + behind, 1, ahead.length());
    }

    private static void towers() {
        says("I", "tower NAME steps N (3 .. 14; 4 TOWERS)");
        range("tower a steps ", 3, 14, ";");
        for (int n = 3; n <= 14; n++) {
            LentStairs x = Check.of("tower a steps " + n + ";");
            due("STEPS", x.tower(0, 0), n);
            due("its TOP", x.step(0, n, 0), 0);
            due("above it", x.step(0, n + 1, 0), NONE);
        }
        for (int n = 0; n <= 4; n++) {
            LentStairs x = Check.of(FOUR.substring(0, 17 * n));
            due("TOWERS", x.has(0), n);
            due("the last one", x.tower(n - 1, 0), n == 0 ? NONE : 14);
            due("behind it", x.tower(n, 0), NONE);
        }
        fault(FOUR + "tower e steps 3;", 5, FOUR.length());
    }

    private static void woods() {
        says("I", "wood NAME costs N (0 .. 99; the last one of a TOWER counts; 1 without)");
        range("tower a steps 3;wood a costs ", 0, 99, ";");
        for (int n : new int[] {0, 1, 98, 99}) {
            due("costs", Check.of("tower a steps 3;wood a costs " + n + ";").tower(0, 1), n);
        }
        LentStairs x = Check.of(AB + "wood a costs 9;wood a costs 0;");
        due("the last one of a", x.tower(0, 1), 0);
        due("none of b", x.tower(1, 1), 1);
        LentStairs y = Check.of(AB + "wood a costs 9;wood b costs 8;wood a costs 7;");
        due("the last one of a", y.tower(0, 1), 7);
        due("the last one of b", y.tower(1, 1), 8);
        due("1 in a REALM behind one with wood", Check.realm(y, "tower a steps 3;"), 1);
        due("1 without", y.tower(0, 1), 1);
    }

    private static void gaps() {
        says("I", "gap N of NAME (a STEP of a TOWER, not its top one,");
        for (int n = 1; n <= 13; n++) {
            LentStairs x = Check.of(AB + "gap " + n + " of a;");
            due("MISSING", x.step(0, n, 0), 1);
            due("STEPS to stand on", x.tower(0, 2), 13);
        }
        fault(AB + "gap 14 of a;", 2, AB.length() + 10);
        fault(AB + "gap 15 of a;", 2, AB.length() + 4);
        fault(AB + "gap 0 of a;", 2, AB.length() + 4);
        Check.of(AB + "gap 1 of b;");
        Check.of(AB + "gap 2 of b;");
        fault(AB + "gap 3 of b;", 2, AB.length() + 9);
        fault(AB + "gap 4 of b;", 2, AB.length() + 9);
        says("I", "20 GAPS");
        StringBuilder text = new StringBuilder(FOUR);
        for (int n = 1; n <= 20; n++) {
            text.append("gap ").append((n + 1) / 2).append(" of ").append(n % 2 == 0 ? "d;" : "a;");
            LentStairs x = Check.of(text.toString());
            due("STEPS to stand on", x.tower(0, 2) + x.tower(3, 2), 28 - n);
        }
        fault(text + "gap 11 of a;", 5, text.length());
        fault(text + "gap 1 of b;", 5, text.length());
        Check.of(text + "loan 11 of a to b days 1 rent 0;");
    }

    private static void gapsTaken() {
        says("I", "that is neither a GAP nor of a LOAN told so far");
        int at = AB.length();
        fault(AB + "gap 1 of a;gap 1 of a;", 2, at + 20);
        fault(AB + "gap 1 of a;gap 2 of a;gap 1 of a;", 2, at + 31);
        fault(AB + "loan 1 of a to b days 1 rent 0;gap 1 of a;", 2, at + 40);
        LentStairs x = Check.of(AB + "gap 1 of a;gap 2 of a;gap 1 of b;loan 3 of a to b days 1 rent 0;gap 4 of a;");
        due("the LOAN's STEP is LENT", x.step(0, 3, 0), 2);
        due("the GAP behind it", x.step(0, 4, 0), 1);
        Check.of(AB + "loan 1 of a to b days 1 rent 0;gap 1 of b;");
    }

    private static void guards() {
        says("I", "guard NAME of NAME legs N rope N (1 .. 6, 0 .. 6; 8 GUARDS)");
        range("tower a steps 3;guard g of a legs ", 1, 6, " rope 0;");
        range("tower a steps 3;guard g of a legs 6 rope ", 0, 6, ";");
        for (int n = 1; n <= 6; n++) {
            LentStairs x = Check.of("tower a steps 3;guard g of a legs " + n + " rope " + (6 - n) + ";");
            due("legs", x.guard(0, 1), n);
            due("rope", x.guard(0, 2), 6 - n);
        }
        StringBuilder text = new StringBuilder(AB);
        for (int n = 0; n < 8; n++) {
            due("GUARDS", Check.of(text.toString()).has(1), n);
            text.append("guard g").append((char) ('a' + n)).append(n % 2 == 0 ? " of a" : " of b").append(" legs 1 rope 6;");
        }
        LentStairs x = Check.of(text.toString());
        due("GUARDS", x.has(1), 8);
        due("the last one's TOWER", x.guard(7, 0), 1);
        due("the last one's rope", x.guard(7, 2), 6);
        due("behind him", x.guard(8, 0), NONE);
        due("a TOWER behind them", Check.of(text + "tower h steps 3;").has(0), 3);
        fault(text + "guard h of a legs 1 rope 0;", 5, text.length());
    }

    private static void loans() {
        says("I", "to another TOWER; 1 .. 99, 0 .. 99; 12 LOANS)");
        range(AB + "loan 1 of a to b days ", 1, 99, " rent 0;");
        range(AB + "loan 1 of a to b days 1 rent ", 0, 99, ";");
        for (int n : new int[] {1, 2, 98, 99}) {
            LentStairs x = Check.of(AB + "loan 1 of a to b days " + n + " rent " + (99 - n) + ";");
            due("days", x.loan(0, 3), n);
            due("rent", x.loan(0, 4), 99 - n);
        }
        Check.of(AB + "loan 1 of b to a days 1 rent 0;");
        fault(AB + "loan 1 of a to a days 1 rent 0;", 3, AB.length() + 15);
        StringBuilder text = new StringBuilder(AB);
        for (int n = 0; n < 12; n++) {
            due("LOANS", Check.of(text.toString()).has(2), n);
            text.append("loan ").append(n + 3).append(" of a to b days 1 rent 0;");
        }
        LentStairs x = Check.of(text.toString());
        due("LOANS", x.has(2), 12);
        due("the last one's STEP", x.loan(11, 1), 14);
        due("behind it", x.loan(12, 1), NONE);
        fault(text + "loan 1 of a to b days 1 rent 0;", 5, text.length());
        fault(text + "loan 1 of b to a days 1 rent 0;", 5, text.length());
    }

    private static void loansTaken() {
        says("I", "loan N of NAME to NAME days N rent N (a STEP of a TOWER, neither a GAP nor of a LOAN told so far");
        int at = AB.length();
        String behind = " to b days 1 rent 0;";
        for (int n = 1; n <= 14; n++) {
            due("LENT", Check.of(AB + "loan " + n + " of a" + behind).step(0, n, 0), 2);
        }
        fault(AB + "loan 0 of a" + behind, 2, at + 5);
        fault(AB + "loan 15 of a" + behind, 2, at + 5);
        fault(AB + "loan 14 of b to a days 1 rent 0;", 2, at + 11);
        fault(AB + "loan 4 of b to a days 1 rent 0;", 2, at + 10);
        due("the top one of b", Check.of(AB + "loan 3 of b to a days 1 rent 0;").step(1, 3, 0), 2);
        fault(AB + "gap 1 of a;loan 1 of a" + behind, 2, at + 21);
        fault(AB + "loan 1 of a" + behind + "loan 1 of a" + behind, 2, at + 41);
        Check.of(AB + "gap 1 of a;loan 2 of a" + behind + "loan 1 of b to a days 1 rent 0;");
    }

    private static void bends() {
        says("I", "bends N (1 .. 99; the last one counts; 99 without)");
        range("bends ", 1, 99, ";");
        for (int n : new int[] {1, 2, 98, 99}) {
            due("bends", Check.of("bends " + n + ";").has(4), n);
        }
        LentStairs x = Check.of("bends 99;bends 1;bends 5;");
        due("the last one", x.has(4), 5);
        due("a REALM behind one with bends", Check.realm(x, ""), 0);
        due("99 without", x.has(4), 99);
    }

    private static void enemies() {
        says("I", "enemy N odds N (legs 1 .. 6, unlike ones; 1 .. 99)");
        range("enemy ", 1, 6, " odds 1;");
        range("enemy 1 odds ", 1, 99, ";");
        String six = "enemy 1 odds 1;enemy 2 odds 99;enemy 3 odds 1;enemy 4 odds 1;enemy 5 odds 1;enemy 6 odds 1;";
        Check.of(six);
        for (int legs = 1; legs <= 6; legs++) {
            fault(six + "enemy " + legs + " odds 1;", 2, six.length() + 6);
            fault("enemy " + legs + " odds 1;enemy " + legs + " odds 2;", 2, 21);
        }
        fault(six + "enemy 7 odds 1;", 2, six.length() + 6);
        fault("enemy 1 odds 1;enemy 01 odds 1;", 2, 21);
    }

    private static void nameLengths() {
        says("I", "NAMES: 1 to 6 letters");
        LentStairs x = Check.of("tower a steps 3;tower az steps 3;tower abcde steps 3;tower zzzzzz steps 3;"
                + "guard zzzzz of zzzzzz legs 1 rope 0;");
        int[][] letters = {{1, 0, 0, 0, 0, 0}, {1, 26, 0, 0, 0, 0}, {1, 2, 3, 4, 5, 0}, {26, 26, 26, 26, 26, 26}};
        for (int t = 0; t < 4; t++) {
            for (int k = 0; k < 6; k++) {
                due("letter " + k + " of " + t, x.letter(0, t, k), letters[t][k]);
            }
        }
        due("the GUARD is of zzzzzz", x.guard(0, 0), 3);
        fault("tower zzzzzzz steps 3;", 1, 12);
        fault("tower zzzzzzzz steps 3;", 1, 12);
        fault("tower  steps 3;", 1, 7);
        fault("tower ;", 1, 6);
        // the bytes beside a and z
        fault("tower ` steps 3;", 1, 6);
        fault("tower { steps 3;", 1, 6);
        fault("tower a` steps 3;", 1, 7);
        fault("tower z{ steps 3;", 1, 7);
        fault("tower Z steps 3;", 1, 6);
    }

    private static void namesAlike() {
        says("I", "unlike ones (of TOWERS and GUARDS)");
        String text = "tower abcdef steps 3;guard abcdee of abcdef legs 1 rope 0;";
        int at = text.length();
        fault(text + "tower abcdef steps 3;", 3, at + 6);
        fault(text + "tower abcdee steps 3;", 3, at + 6);
        fault(text + "guard abcdef of abcdef legs 1 rope 0;", 3, at + 6);
        fault(text + "guard abcdee of abcdef legs 1 rope 0;", 3, at + 6);
        Check.of(text + "tower abcde steps 3;tower bbcdef steps 3;guard abcdeg of abcde legs 1 rope 0;"
                + "guard a of bbcdef legs 1 rope 0;");
    }

    private static void namesOwnWords() {
        says("I", "OWN WORDS: tower, steps, wood, costs, gap, of, guard, legs, rope, loan, to, days, rent, bends, enemy, odds.");
        for (String own : OWN_WORDS) {
            fault("tower " + own + " steps 3;", 1, 6);
            fault(AB + "guard " + own + " of a legs 1 rope 0;", 1, AB.length() + 6);
            fault(AB + "wood " + own + " costs 1;", 1, AB.length() + 5);
            fault(AB + "gap 1 of " + own + ";", 1, AB.length() + 9);
            fault(AB + "guard g of " + own + " legs 1 rope 0;", 1, AB.length() + 11);
            fault(AB + "loan 1 of " + own + " to b days 1 rent 0;", 1, AB.length() + 10);
            fault(AB + "loan 1 of a to " + own + " days 1 rent 0;", 1, AB.length() + 15);
            String longer = own + "s";
            String shorter = own.substring(1);
            Check.of("tower " + longer + " steps 3;tower " + shorter + " steps 3;wood " + longer + " costs 1;"
                    + "gap 1 of " + shorter + ";loan 1 of " + longer + " to " + shorter + " days 1 rent 0;");
        }
        Check.of("tower first steps 3;tower not steps 3;guard day of not legs 1 rope 0;");
    }

    private static void namesAhead() {
        says("I", "told ahead of where they are asked");
        fault("wood a costs 1;tower a steps 3;", 3, 5);
        fault("gap 1 of a;tower a steps 3;", 3, 9);
        fault("guard g of a legs 1 rope 0;tower a steps 3;", 3, 11);
        fault("tower a steps 3;loan 1 of a to b days 1 rent 0;tower b steps 3;", 3, 31);
        fault("tower b steps 3;loan 1 of a to b days 1 rent 0;tower a steps 3;", 3, 26);
        fault("tower a steps 3;guard b of b legs 1 rope 0;", 3, 27);
        Check.of("tower a steps 3;wood a costs 1;tower b steps 3;loan 1 of b to a days 1 rent 0;");
    }

    private static void numbers() {
        says("I", "NUMBERS: 1 to 4 digits.");
        for (String n : new String[] {"7", "07", "007", "0007"}) {
            due("a 7 of digits", Check.of("bends " + n + ";").has(4), 7);
        }
        fault("bends 00007;", 1, 10);
        fault("bends 000007;", 1, 10);
        fault("bends ;", 1, 6);
        fault("bends 9999;", 2, 6);
        fault("bends 10000;", 1, 10);
        // the bytes beside 0 and 9
        fault("bends /;", 1, 6);
        fault("bends :;", 1, 6);
        fault("bends 7/;", 1, 7);
        fault("bends 7:;", 1, 7);
    }

    private static void blanks() {
        says("I", "Blanks (10, 32) are where one likes");
        for (int octet = 0; octet < 256; octet++) {
            String blank = String.valueOf((char) octet);
            if (octet == 10 || octet == 32) {
                Check.of(blank + "bends" + blank + "7" + blank + ";" + blank);
                Check.of((blank + blank) + "bends" + blank + blank + "7" + blank + blank + ";" + blank + blank);
            } else {
                boolean letter = octet >= 'a' && octet <= 'z';
                fault("bends" + blank + "7;", 1, letter ? 0 : 5);
                fault(blank + "bends 7;", 1, 0);
                boolean digit = octet >= '0' && octet <= '9';
                if (octet != ';' && !digit) {
                    fault("bends 7" + blank + " ;", 1, 7);
                }
            }
        }
    }

    private static void wordsSideBySide() {
        says("I", "(words and numbers side by side need one)");
        fault("towera steps 3;", 1, 0);
        fault("tower asteps 3;", 1, 13);
        fault("tower a steps3;", 1, 13);
        fault("bends7;", 1, 5);
        fault(AB + "gap1 of a;", 1, AB.length() + 3);
        fault(AB + "gap 1of a;", 1, AB.length() + 5);
        fault(AB + "gap 1 ofa;", 1, AB.length() + 6);
        fault(AB + "guard g of a legs 1rope 0;", 1, AB.length() + 19);
        fault("enemy 1odds 1;", 1, 7);
        Check.of("tower a steps 3;tower b steps 3;gap 1 of a;enemy 1 odds 1;");
        Check.of("tower a steps 3 ; tower b steps 3 ; gap 1 of a ; enemy 1 odds 1 ; ");
    }

    private static void firstAlong() {
        says("I", "FAULTS, the first along the text");
        fault("tower a steps 2x;", 2, 14);
        fault("tower a steps 2", 2, 14);
        fault("tower a steps 3;tower a steps 2;", 3, 22);
        fault("tower a steps 3;tower a of;", 3, 22);
        fault("bends 0;tower of", 2, 6);
        fault("tower of;bends 0;", 1, 6);
        fault(AB + "gap 15 of x;", 2, AB.length() + 4);
        fault(AB + "gap 14 of x;", 3, AB.length() + 10);
        fault(AB + "gap 14 of a of", 2, AB.length() + 10);
        fault(AB + "loan 14 of b to b", 2, AB.length() + 11);
        fault(AB + "loan 1 of b to b days 0", 3, AB.length() + 15);
        fault(FOUR + "tower of", 5, FOUR.length());
        fault(FOUR + "bends 0;tower e", 2, FOUR.length() + 6);
    }

    private static void noTextGoesOn() {
        says("I", "1 the first byte with which no such text goes on (words and numbers whole, at their first byte;");
        fault("towar a steps 3;", 1, 0);
        fault("towers a steps 3;", 1, 0);
        fault("towe a steps 3;", 1, 0);
        fault("7;", 1, 0);
        fault("12345;", 1, 0);
        fault(" abcdefgh;", 1, 1);
        fault("steps 3;", 1, 0);
        fault("tower a step 3;", 1, 8);
        fault("tower a stepss 3;", 1, 8);
        fault("tower a 12345;", 1, 8);
        fault("tower a steps abcdefgh;", 1, 14);
        fault("tower a steps 3 12345;", 1, 16);
        fault("tower a steps 3 abcdefgh;", 1, 16);
        fault("tower a steps 3,", 1, 15);
        fault(";", 1, 0);
        fault("bends 7;;", 1, 8);
        fault("bends 7; ;", 1, 9);
    }

    /** Each STATEMENT cut behind each of its pieces, a sign there; then another STATEMENT, which is not read. */
    private static void signTooSoon() {
        says("I", "1 the first byte with which no such text goes on");
        String[] whole = {"tower c steps 3", "wood a costs 1", "gap 1 of a", "guard g of a legs 1 rope 0",
            "loan 1 of a to b days 1 rent 0", "bends 1", "enemy 1 odds 1"};
        for (String statement : whole) {
            String[] pieces = statement.split(" ");
            StringBuilder part = new StringBuilder(AB);
            for (String piece : pieces) {
                part.append(piece);
                boolean last = part.length() == AB.length() + statement.length();
                LentStairs x = new LentStairs();
                due(part + ";", Check.realm(x, part + ";bends 7;"), last ? 4 : NONE);
                due("FAULT of " + part + ";", x.fault(0), last ? 0 : 1);
                due("place of " + part + ";", x.fault(1), last ? NONE : part.length());
                due("bends", x.has(4), last ? 7 : 99);
                due("TOWERS", x.has(0) >= 2, last);
                part.append(' ');
            }
        }
    }

    private static void asksNameOrNumber() {
        says("I", "where a NAME is asked, an OWN WORD so, a 7th letter at itself; where a number is asked, a 5th digit at itself;");
        int at = AB.length();
        fault(AB + "wood abcdefg costs 1;", 1, at + 11);
        fault(AB + "wood costs costs 1;", 1, at + 5);
        fault(AB + "wood abcdef costs 1;", 3, at + 5);
        fault(AB + "gap 1 of abcdefg;", 1, at + 15);
        fault(AB + "guard abcdefg of a legs 1 rope 0;", 1, at + 12);
        fault(AB + "guard abcdef of abcdefg legs 1 rope 0;", 1, at + 22);
        fault(AB + "loan 1 of abcdefg to b days 1 rent 0;", 1, at + 16);
        fault(AB + "loan 1 of a to abcdefg days 1 rent 0;", 1, at + 21);
        fault(AB + "wood 12345 costs 1;", 1, at + 5);
        String[] ahead = {"tower c steps ", "wood a costs ", "gap ", "guard g of a legs ", "guard g of a legs 1 rope ",
            "loan ", "loan 1 of a to b days ", "loan 1 of a to b days 1 rent ", "bends ", "enemy ", "enemy 1 odds "};
        for (String text : ahead) {
            fault(AB + text + "00003", 1, at + text.length() + 4);
            fault(AB + text + "00000", 1, at + text.length() + 4);
            fault(AB + text + "9999", 2, at + text.length());
            fault(AB + text + "a", 1, at + text.length());
            fault(AB + text + "of", 1, at + text.length());
        }
    }

    private static void endsTooSoon() {
        says("I", "at the text's length, if it ends too soon)");
        String text = "tower a steps 3;\n tower b steps 4 ;wood a costs 7; gap 1 of b;guard g of b legs 2 rope 0;"
                + "loan 3 of a to b days 5 rent 6; bends 7;enemy 1 odds 2; ";
        int whole = 0;
        for (int cut = 0; cut <= text.length(); cut++) {
            String part = text.substring(0, cut);
            String last = part.substring(part.lastIndexOf(';') + 1);
            boolean inWord = cut > 0 && cut < text.length() && Character.isLetter(text.charAt(cut - 1))
                    && Character.isLetter(text.charAt(cut));
            if (part.endsWith(";")) {
                whole++;
            }
            if (last.isBlank()) {
                due("realm of " + part, Check.realm(new LentStairs(), part), whole);
            } else if (inWord) {
                int first = cut;
                while (first > 0 && Character.isLetter(part.charAt(first - 1))) {
                    first--;
                }
                fault(part, 1, first);
                fault(part + " ", 1, first);
            } else {
                fault(part, 1, cut);
                fault(part + " \n", 1, cut + 2);
            }
        }
        due("all STATEMENTS", whole, 8);
    }

    private static void numbersThatCantBe() {
        says("I", "2 a number that can't be, at it (a STEP: 1 .. 14), or a STEP that this TOWER has not,"
                + " or that can't be taken, at the TOWER's NAME;");
        int at = AB.length();
        for (int n : new int[] {0, 15, 16, 9999}) {
            fault(AB + "gap " + n + " of x", 2, at + 4);
            fault(AB + "loan " + n + " of x", 2, at + 5);
        }
        for (int n : new int[] {4, 5, 13, 14}) {
            fault(AB + "gap " + n + "  of  b", 2, at + 10 + (n < 10 ? 1 : 2));
            fault(AB + "loan " + n + " of b", 2, at + 9 + (n < 10 ? 1 : 2));
        }
        fault(AB + "gap 3 of b", 2, at + 9);
        fault(AB + "gap 2 of b", 1, at + 10);
        fault(AB + "loan 3 of b", 1, at + 11);
        fault(AB + "gap 13 of a", 1, at + 11);
        fault(AB + "gap 14 of a", 2, at + 10);
        fault(AB + "loan 14 of a", 1, at + 12);
        fault(AB + "enemy 6 odds 1;enemy 6", 2, at + 21);
    }

    private static void namesThatCantBe() {
        says("I", "3 a NAME to be given that is there already, one that is none of what is asked,"
                + " of loan the same TOWER again, at it;");
        String text = AB + "guard g of a legs 1 rope 0;";
        int at = text.length();
        for (String there : new String[] {"a", "b", "g"}) {
            fault(text + "tower " + there, 3, at + 6);
            fault(text + "guard " + there, 3, at + 6);
            fault(text + "tower " + there + there, 1, at + 8);
            fault(text + "guard " + there + there, 1, at + 8);
        }
        for (String none : new String[] {"g", "x", "aa", "ab", "ba"}) {
            fault(text + "wood " + none, 3, at + 5);
            fault(text + "gap 1 of " + none, 3, at + 9);
            fault(text + "guard h of " + none, 3, at + 11);
            fault(text + "loan 1 of " + none, 3, at + 10);
            fault(text + "loan 1 of a to " + none, 3, at + 15);
        }
        fault(text + "loan 1 of a to a", 3, at + 15);
        fault(text + "loan 1 of b to b", 3, at + 15);
        fault(text + "loan 1 of a to b", 1, at + 16);
        fault(text + "loan 1 of b to a", 1, at + 16);
        fault(text + "guard h of h", 3, at + 11);
    }

    private static void oneTooMany() {
        says("I", "5 one too many of a kind, a 71st STATEMENT (whatever stands there), at its first byte.");
        fault(FOUR + "tower", 5, FOUR.length());
        fault(FOUR + "\n tower", 5, FOUR.length() + 2);
        fault(FOUR + "tower a steps 3;", 5, FOUR.length());
        fault(FOUR + "tower5", 5, FOUR.length());
        fault(FOUR + "towers", 1, FOUR.length());
        fault(FOUR + "towe", 1, FOUR.length());
        String many = FOUR + "bends 7;".repeat(66);
        due("70 with 4 TOWERS", Check.realm(new LentStairs(), many), 70);
        String[] anything = {"bends 7;", "bends 0;", "tower e steps 3;", "tower", ";", "#", "7", "12345", "abcdefgh", "\0", "\u00ff"};
        for (String text : anything) {
            fault(many + text, 5, many.length());
            fault(many + "\n  " + text, 5, many.length() + 3);
        }
        String inside = FOUR + "bends 7;".repeat(65);
        fault(inside + "#", 1, inside.length());
        fault(inside + "bends 0;", 2, inside.length() + 6);
        fault(inside + "bends 7;#", 5, inside.length() + 8);
        fault(inside + "bends 7#", 1, inside.length() + 7);
    }

    private static void realmGoes() {
        says("4", "The tape (it goes) is THE REALM: how many STATEMENTS");
        LentStairs x = new LentStairs();
        due("an empty tape", x.realm(), 0);
        due("one", Check.realm(x, "tower a steps 3;"), 1);
        due("the tape went", x.end(1), false);
        due("an empty tape again", x.realm(), 0);
        due("no TOWERS then", x.has(0), 0);
        due("with a FAULT", Check.realm(x, "tower"), NONE);
        due("the tape went", x.end(1), false);
        due("fed anew", fill(x, 1), 20);
        due("blanks alone", x.realm(), 0);
    }

    private static void realmStays() {
        says("4", "NONE, refused (1), with a FAULT (all stays)");
        LentStairs x = Check.of(AB + "guard g of b legs 1 rope 0;gap 1 of b;bends 3;wood a costs 4;enemy 1 odds 2;"
                + "loan 9 of a to b days 9 rent 5;");
        x.go(3);
        x.image();
        int check = x.octet(x.image() - 1);
        due("refused", Check.realm(x, "tower c steps 5;wood c costs 9;bends 8;enemy 3 odds 3;tower d steps 9;"
                + "guard h of c legs 6 rope 6;gap 4 of c;loan 1 of c to d days 3 rent 4;;"), NONE);
        due("refused", x.status(1), 1);
        int[] has = {2, 1, 1, 1, 3, 3, 2, 0, 0, 1};
        for (int what = 0; what < has.length; what++) {
            due("has " + what, x.has(what), has[what]);
        }
        due("its NAME", x.letter(0, 0, 0), 1);
        due("its GUARD", x.letter(1, 0, 0), 7);
        due("legs", x.guard(0, 1), 1);
        due("STEPS", x.tower(0, 0), 14);
        due("wood", x.tower(0, 1), 4);
        due("PURSE", x.purse(0), 15);
        due("ODDS", x.odds(0), 0);
        due("the latest image", x.octet(x.image() - 1), check);
        due("undone", x.undo(), true);
        due("DAY", x.has(5), 0);
        due("refused again", Check.realm(x, "bends 0;"), NONE);
        due("refused twice", x.status(1), 2);
        due("not refused", Check.realm(x, "bends 1;"), 1);
        due("not counted", x.status(1), 2);
    }

    private static void realmBegins() {
        says("4", "Without one it is DAY 0, LOANS are begun in their order behind all else, nothing can be undone.");
        LentStairs x = Check.of("tower a steps 5;tower b steps 4;loan 5 of a to b days 1 rent 0;gap 2 of b;"
                + "loan 4 of a to b days 1 rent 0;loan 3 of b to a days 1 rent 0;gap 1 of b;");
        due("behind the last GAP", x.loan(0, 6), 1);
        due("in their order", x.loan(1, 6), 2);
        due("behind the first two", x.loan(2, 6), 4);
        due("no ACTS", x.has(9), 0);
        due("undo", x.undo(), false);
        x.go(1);
        x.lend(0, 1, 1, 1, 1);
        due("two ACTS", x.has(9), 2);
        due("a REALM", Check.realm(x, "tower c steps 3;"), 1);
        due("DAY 0", x.has(5), 0);
        due("no LOANS", x.has(2), 0);
        due("no ACTS", x.has(9), 0);
        due("undo", x.undo(), false);
        due("PURSE", x.purse(0), 0);
        due("refusals stay", x.status(3), 2);
    }

    private static void realmAnew() {
        says("4", "The tape (it goes) is THE REALM");
        String all = "tower aa steps 14;tower bb steps 14;tower cc steps 14;tower dd steps 14;wood aa costs 9;wood dd costs 0;bends 1;"
                + "enemy 1 odds 1;enemy 2 odds 2;enemy 3 odds 3;enemy 4 odds 4;enemy 5 odds 5;enemy 6 odds 6;";
        StringBuilder many = new StringBuilder(all);
        for (int i = 0; i < 20; i++) {
            many.append("gap ").append(i % 5 + 1).append(" of ").append("abcd".charAt(i / 5)).append("abcd".charAt(i / 5)).append(';');
        }
        for (int i = 0; i < 12; i++) {
            many.append("loan ").append(i + 2).append(i < 4 ? " of cc to dd" : " of aa to bb").append(" days 9 rent 9;");
        }
        String full = many.toString().replace("loan 2 ", "loan 14 ").replace("loan 3 ", "loan 13 ").replace("loan 4 ", "loan 12 ")
                .replace("loan 5 ", "loan 11 ");
        StringBuilder guards = new StringBuilder();
        for (int i = 0; i < 8; i++) {
            guards.append("guard g").append((char) ('a' + i)).append(" of dd legs ").append(i % 6 + 1).append(" rope 6;");
        }
        String[] others = {"", "tower ga steps 3;", "tower bb steps 3;tower ga steps 4;guard aa of ga legs 1 rope 0;guard gb of bb legs 1 rope 0;",
            "tower x steps 5;tower y steps 4;gap 1 of x;loan 2 of x to y days 3 rent 4;gap 3 of y;",
            "tower abcdef steps 3;tower a steps 3;guard b of a legs 2 rope 0;enemy 6 odds 1;"};
        for (String ahead : new String[] {full, all + guards}) {
            for (String other : others) {
                for (int part = 0; part < 4; part++) {
                    // two REALMS with all there can be, then one or two others: nothing of the first ones may show
                    LentStairs old = used(ahead);
                    Check.realm(old, other);
                    same(old, Check.of(other), part);
                    LentStairs older = used(ahead);
                    Check.realm(older, other);
                    Check.realm(older, other);
                    same(older, Check.of(other), part);
                    // and behind one with a FAULT at its end
                    LentStairs refused = used(ahead);
                    due("a FAULT", Check.realm(refused, ahead + ";"), NONE);
                    Check.realm(refused, other);
                    same(refused, Check.of(other), part);
                }
            }
        }
    }

    private static LentStairs used(String text) {
        LentStairs x = Check.of(text);
        x.go(9);
        due("once more", Check.realm(x, text) > 0, true);
        return x;
    }

    /** One that had other REALMS ahead answers as a new one does; in parts, so that none is used for more than 512 calls. */
    private static void same(LentStairs old, LentStairs anew, int part) {
        switch (part) {
            case 0 -> sameNames(old, anew);
            case 1 -> sameCounts(old, anew);
            case 2 -> sameSteps(old, anew);
            default -> sameReaches(old, anew);
        }
    }

    private static void sameNames(LentStairs old, LentStairs anew) {
        for (int i = 0; i < 9; i++) {
            for (int k = 0; k < 6; k++) {
                due("NAME of TOWER " + i, old.letter(0, i, k), anew.letter(0, i, k));
                due("NAME of GUARD " + i, old.letter(1, i, k), anew.letter(1, i, k));
            }
        }
    }

    private static void sameCounts(LentStairs old, LentStairs anew) {
        for (int what = 0; what < 10; what++) {
            due("has " + what, old.has(what), anew.has(what));
            for (int i = 0; i < 13; i++) {
                due("LOAN " + i, old.loan(i, what), anew.loan(i, what));
            }
        }
        int size = anew.image();
        due("IMAGE", old.image(), size);
        due("its last byte", old.octet(size - 1), anew.octet(size - 1));
    }

    private static void sameSteps(LentStairs old, LentStairs anew) {
        for (int t = 0; t < 4; t++) {
            for (int s = 1; s <= 14; s++) {
                for (int what = 0; what < 4; what++) {
                    due("STEP " + s + " of " + t, old.step(t, s, what), anew.step(t, s, what));
                }
            }
        }
    }

    private static void sameReaches(LentStairs old, LentStairs anew) {
        for (int t = 0; t < 5; t++) {
            for (int what = 0; what < 6; what++) {
                due("TOWER " + t, old.tower(t, what), anew.tower(t, what));
            }
            due("ODDS", old.odds(t), anew.odds(t));
            due("PURSE", old.purse(t), anew.purse(t));
            due("SPARE", old.spare(t, NONE), anew.spare(t, NONE));
            due("NEED", old.need(t, NONE), anew.need(t, NONE));
            due("LOST", old.lost(t), anew.lost(t));
            due("rents", old.rents(t, 9), anew.rents(t, 9));
        }
        for (int g = 0; g < 9; g++) {
            for (int what = 0; what < 3; what++) {
                due("GUARD " + g, old.guard(g, what), anew.guard(g, what));
            }
            due("blame", old.blame(g, 0), anew.blame(g, 0));
            due("hops", old.hops(g), anew.hops(g));
            due("reaches", old.reaches(g, 2), anew.reaches(g, 2));
            due("wood", old.wood(g), anew.wood(g));
        }
        due("RESCUE", old.rescue(NONE, 0), anew.rescue(NONE, 0));
        due("NETTED", old.netted(), anew.netted());
        due("RING", old.ring(), anew.ring());
    }

    private static void faults() {
        says("5", "Of the latest realm() or ask(): its FAULT (what 0; 0 without, and ahead of any), its place (1; NONE without).");
        LentStairs x = new LentStairs();
        due("ahead of any", x.fault(0), 0);
        due("ahead of any", x.fault(1), NONE);
        Check.realm(x, "bends 0;");
        due("of realm()", x.fault(0), 2);
        due("its place", x.fault(1), 6);
        Check.ask(x, "total");
        due("of ask()", x.fault(0), 1);
        due("its place", x.fault(1), 5);
        x.lend(0, 0, 0, 0, 0);
        x.end(-1);
        due("not of others", x.fault(0), 1);
        Check.ask(x, "total 1");
        due("without", x.fault(0), 0);
        due("without", x.fault(1), NONE);
        Check.realm(x, ";");
        due("at 0", x.fault(0), 1);
        due("at 0", x.fault(1), 0);
        Check.realm(x, "");
        due("without", x.fault(0), 0);
        due("without", x.fault(1), NONE);
        says("5", "NONE for another what.");
        Check.realm(x, ";");
        for (int what : new int[] {-1, 2, 3, Integer.MAX_VALUE, Integer.MIN_VALUE}) {
            due("fault " + what, x.fault(what), NONE);
        }
    }
}
