/** Term II sentence by sentence, at each bound, just inside and just outside it; promises 6 to 17. */
public final class ActBoundaryTest {
    private static final int NONE = LentStairs.NONE;
    private static final int NOTHING = LentStairs.NOTHING;
    private static final int[] FAR = {Integer.MIN_VALUE, -1000000000, -2, 1000, Integer.MAX_VALUE};
    private static final String ABC = "tower a steps 14;tower b steps 4;tower c steps 3;";

    public static void main(String[] args) {
        stepNumbers();
        howStepsAre();
        standing();
        lowestFilled();
        loansOfAll();
        toldLoansFirst();
        askedWithAllLoans();
        daysOver();
        givenBack();
        bendings();
        daysGoBy();
        purses();
        lastDay();
        yards();
        refitsPaid();
        actsUndone();
        has();
        letters();
        towers();
        pursesOf();
        steps();
        loans();
        guards();
        lending();
        lendingRefused();
        lendingDaysAndRent();
        backs();
        refits();
        goes();
        undoes();
        Check.told("II", "6", "7", "8", "9", "10", "11", "12", "13", "14", "15", "16", "17");
        Check.finish();
    }

    private static void says(String part, String words) {
        Check.says(part, words);
    }

    private static void due(String what, long got, long want) {
        Check.due(what, got, want);
    }

    private static void due(String what, boolean got, boolean want) {
        Check.due(what, got, want);
    }

    private static void goFar(LentStairs x, int days) {
        int left = days;
        while (left > 0) {
            int now = Math.min(left, 100);
            due("go " + now, x.go(now) >= 0, true);
            left -= now;
        }
    }

    private static void stepNumbers() {
        says("II", "STEPS of a TOWER are numbered from 1 up; the last one is its TOP; the ground is 0.");
        LentStairs x = Check.of(ABC);
        int[] heights = {14, 4, 3};
        for (int t = 0; t < 3; t++) {
            due("no STEP 0", x.step(t, 0, 0), NONE);
            due("STEP 1", x.step(t, 1, 0), 0);
            due("below the TOP", x.step(t, heights[t] - 1, 0), 0);
            due("the TOP", x.step(t, heights[t], 0), 0);
            due("above the TOP", x.step(t, heights[t] + 1, 0), NONE);
        }
    }

    private static void howStepsAre() {
        says("II", "A STEP is THERE (0), MISSING (1: a GAP), LENT (2), or BENT (3).");
        LentStairs x = Check.of(ABC + "gap 1 of b;bends 1;loan 1 of a to b days 1 rent 0;");
        due("THERE", x.step(0, 2, 0), 0);
        due("MISSING, FILLED or not", x.step(1, 1, 0), 1);
        due("LENT", x.step(0, 1, 0), 2);
        x.go(1);
        due("BENT", x.step(0, 1, 0), 3);
        due("MISSING", x.step(1, 1, 0), 1);
        x.lend(2, 1, 0, 1, 0);
        due("BENT and FILLED", x.step(0, 1, 0), 3);
        x.refit(0, 1);
        due("THERE and FILLED", x.step(0, 1, 0), 0);
    }

    private static void standing() {
        says("II", "One can STAND on a STEP that is THERE, or that is FILLED.");
        LentStairs x = Check.of(ABC + "gap 1 of b;gap 2 of b;bends 1;loan 1 of a to b days 1 rent 0;");
        due("THERE", x.step(0, 2, 1), 1);
        due("LENT", x.step(0, 1, 1), 0);
        due("MISSING, FILLED", x.step(1, 1, 1), 1);
        due("MISSING", x.step(1, 2, 1), 0);
        due("of b", x.tower(1, 2), 3);
        due("of a", x.tower(0, 2), 13);
        x.lend(2, 1, 0, 2, 0);
        due("LENT, FILLED", x.step(0, 1, 1), 1);
        x.go(1);
        due("BENT, FILLED", x.step(0, 1, 1), 1);
        x.go(1);
        due("BENT", x.step(0, 1, 1), 0);
        due("MISSING", x.step(1, 1, 1), 0);
    }

    private static void lowestFilled() {
        says("II", "it FILLS at once the lowest STEP of the other TOWER on which one can't stand, else it lies in its yard.");
        LentStairs x = Check.of(ABC + "gap 1 of b;gap 3 of b;");
        due("the lowest", x.loan(x.lend(0, 1, 1, 9, 0), 6), 1);
        due("the next", x.loan(x.lend(0, 2, 1, 9, 0), 6), 3);
        due("none", x.loan(x.lend(0, 3, 1, 9, 0), 6), 0);
        due("one in the yard", x.has(8), 1);
        due("the TOP is lent", x.loan(x.lend(1, 4, 2, 9, 0), 6), 0);
        due("the TOP is FILLED", x.loan(x.lend(0, 4, 1, 9, 0), 6), 4);
        due("none again", x.loan(x.lend(0, 5, 1, 9, 0), 6), 0);
        due("three in yards", x.has(8), 3);
        due("a LENT one of a", x.loan(x.lend(2, 1, 0, 9, 0), 6), 1);
        LentStairs y = Check.of(ABC + "bends 1;loan 14 of a to b days 1 rent 0;");
        y.go(1);
        due("a BENT TOP", y.loan(y.lend(1, 1, 0, 9, 0), 6), 14);
        due("one's own STEP, just LENT, is no other TOWER's", y.loan(0, 6), 0);
    }

    private static void loansOfAll() {
        says("II", "LOANS are numbered as they come, 24 of all; those told first.");
        LentStairs x = Check.of(ABC);
        for (int i = 0; i < 24; i++) {
            due("LOANS", x.has(2), i);
            due("its number", x.lend(1, 1, 2, 1, 0), i);
            x.go(1);
        }
        due("24", x.has(2), 24);
        due("none open", x.has(3), 0);
        due("a 25th, though all have ENDED", x.lend(1, 1, 2, 1, 0), NONE);
        due("refused", x.status(2), 1);
        due("undone", x.undo() && x.undo(), true);
        due("23", x.has(2), 23);
        due("the 24th again", x.lend(1, 2, 2, 1, 0), 23);
        due("the 25th again", x.lend(1, 3, 2, 1, 0), NONE);
    }

    private static void toldLoansFirst() {
        says("II", "those told first");
        StringBuilder told = new StringBuilder(ABC);
        for (int i = 0; i < 12; i++) {
            told.append("loan ").append(12 - i).append(" of a to b days 9 rent 0;");
        }
        LentStairs x = Check.of(told.toString());
        for (int i = 0; i < 12; i++) {
            due("told", x.loan(i, 1), 12 - i);
        }
        for (int i = 12; i < 24; i++) {
            due("lent", x.lend(2, 1, 1, 1, 0), i);
            due("back", x.back(i), true);
        }
        due("a 25th", x.lend(2, 1, 1, 1, 0), NONE);
        due("the last one's TOWER", x.loan(23, 0), 2);
    }

    /** All that looks at LOANS one by one, with as many as there can be: each open, then each ENDED. */
    private static void askedWithAllLoans() {
        says("II", "24 of all");
        LentStairs x = Check.of("tower a steps 14;tower b steps 14;tower c steps 14;tower d steps 14;bends 1;enemy 1 odds 1;"
                + "guard g of a legs 1 rope 0;guard h of b legs 6 rope 0;guard i of d legs 6 rope 6;");
        for (int i = 0; i < 24; i++) {
            due("LOAN", x.lend(i < 13 ? 0 : 1, i < 13 ? i + 2 : i - 12, i < 13 ? 3 : 2, 9, 1), i);
        }
        due("open ones", x.has(3), 24);
        due("all in yards", x.has(8), 24);
        due("FILLED by none", x.step(0, 1, 2), NONE);
        due("LENT by none", x.step(0, 1, 3), NONE);
        due("LENT by the last", x.step(1, 11, 3), 23);
        due("behind the last", x.loan(24, 0), NONE);
        due("back behind the last", x.back(24), false);
        due("rents of a", x.rents(0, 10), 13 * 9);
        due("rents of c", x.rents(2, 10), -11 * 9);
        due("NETTED", x.netted(), 24);
        due("RING", x.ring(), 0);
        due("fewest", x.blame(0, 0), 13);
        due("bits", x.blame(0, 1), (1 << 13) - 1);
        due("sets", x.blame(0, 2), 1);
        due("fewest of the longer legs", x.blame(1, 0), 1);
        due("LEAST WOOD", x.wood(0), NONE);
        due("NEED of a", x.need(0, NONE), 13);
        due("NEED of b", x.need(1, NONE), 1);
        due("SPARE of d", x.spare(3, NONE), 11);
        due("RESCUE", x.rescue(NONE, 0), 14);
        due("the last of it", x.rescue(13, 0), 3);
        due("ODDS", x.odds(0), 0);
        due("LOST", x.lost(0), 0);
        Check.asks(x, "total lent + yard", 24 * 9 * 2);
        Check.asks(x, "most bent", 24);
        due("IMAGE", x.image(), 268);
        due("go", x.go(9), 24);
        due("PURSE of a", x.purse(0), 13 * 9);
        due("open ones", x.has(3), 0);
        due("in yards", x.has(8), 0);
        due("BENT", x.has(7), 24);
        due("LEAST WOOD", x.wood(0), 13);
        due("blame", x.blame(0, 0), NONE);
        due("NETTED", x.netted(), 0);
        due("rents", x.rents(0, 10), 0);
        due("LENT by none", x.step(1, 11, 3), NONE);
        due("undone", x.undo(), true);
        due("open ones", x.has(3), 24);
    }

    private static void daysOver() {
        says("II", "It ENDS when its days are over, or when it is given back: what it FILLED is so no more; the STEP is THERE again");
        for (int days : new int[] {1, 2, 98, 99}) {
            LentStairs x = Check.of(ABC + "gap 2 of b;loan 3 of a to b days " + days + " rent 0;");
            if (days > 1) {
                due("a day ahead", x.go(days - 1), 0);
            }
            due("not ENDED", x.loan(0, 7), 0);
            due("days left", x.loan(0, 3), 1);
            due("days away", x.loan(0, 5), days - 1);
            due("FILLS", x.step(1, 2, 2), 0);
            due("its days are over", x.go(1), 1);
            due("ENDED", x.loan(0, 7), 1);
            due("days left", x.loan(0, 3), 0);
            due("days away", x.loan(0, 5), days);
            due("FILLS none", x.loan(0, 6), 0);
            due("FILLED no more", x.step(1, 2, 2), NONE);
            due("not to stand on", x.step(1, 2, 1), 0);
            due("THERE, or BENT by 99 days", x.step(0, 3, 0), days == 99 ? 3 : 0);
            due("no LOAN lends it", x.step(0, 3, 3), NONE);
            due("a day more", x.go(1), 0);
            due("days away stay", x.loan(0, 5), days);
        }
    }

    private static void givenBack() {
        says("II", "or when it is given back");
        LentStairs x = Check.of(ABC + "gap 2 of b;loan 3 of a to b days 9 rent 7;");
        due("at once", x.back(0), true);
        due("THERE", x.step(0, 3, 0), 0);
        due("FILLED no more", x.step(1, 2, 1), 0);
        x.go(1);
        due("no rent of one given back", x.purse(0), 0);
        due("days away", x.loan(0, 5), 0);
        due("days left stay", x.loan(0, 3), 9);
    }

    private static void bendings() {
        says("II", "or BENT, if it was away for as many days as bends, or more");
        int[] bends = {1, 2, 3, 98, 99};
        for (int bend : bends) {
            for (int away : new int[] {bend - 1, bend, bend + 1}) {
                int how = away >= bend ? 3 : 0;
                LentStairs x = Check.of(ABC + "bends " + bend + ";loan 3 of a to b days 99 rent 0;");
                if (away >= 1 && away < 99) {
                    x.go(away);
                }
                if (away < 99) {
                    due("given back behind " + away + " of " + bend, x.back(0), true);
                    due("how it is behind " + away + " of " + bend, x.step(0, 3, 0), how);
                    due("BENT STEPS", x.has(7), how == 3 ? 1 : 0);
                }
                if (away >= 1 && away <= 99) {
                    LentStairs y = Check.of(ABC + "bends " + bend + ";loan 3 of a to b days " + away + " rent 0;");
                    due("over", y.go(Math.min(100, away)), 1);
                    due("over behind " + away + " of " + bend, y.step(0, 3, 0), how);
                }
            }
        }
        LentStairs z = Check.of(ABC + "bends 2;");
        for (int i = 0; i < 3; i++) {
            z.lend(0, 3, 1, 1, 0);
            z.go(1);
            due("days away of two LOANS are not added", z.step(0, 3, 0), 0);
        }
    }

    private static void daysGoBy() {
        says("II", "for each LOAN that has not ENDED, by numbers, the TOWER that has it pays its rent to the one it is of,"
                + " it has a day less; at 0 it ENDS.");
        LentStairs x = Check.of(ABC + "loan 1 of a to b days 1 rent 99;loan 1 of b to c days 2 rent 1;loan 1 of c to a days 3 rent 0;");
        int[][] purses = {{99, -98, -1}, {99, -97, -2}, {99, -97, -2}, {99, -97, -2}};
        for (int day = 1; day <= 4; day++) {
            due("ENDED on " + day, x.go(1), day <= 3 ? 1 : 0);
            for (int t = 0; t < 3; t++) {
                due("PURSE " + t + " on " + day, x.purse(t), purses[day - 1][t]);
            }
            due("not ENDED", x.has(3), Math.max(0, 3 - day));
        }
    }

    private static void purses() {
        says("II", "(PURSES are 0 at first, may be below 0.)");
        LentStairs x = Check.of(ABC + "loan 1 of a to b days 99 rent 99;");
        for (int t = 0; t < 3; t++) {
            due("at first", x.purse(t), 0);
        }
        x.go(1);
        due("above", x.purse(0), 99);
        due("below", x.purse(1), -99);
        x.go(100);
        due("the most of one LOAN", x.purse(0), 9801);
        due("the least of one LOAN", x.purse(1), -9801);
        due("the third", x.purse(2), 0);
    }

    private static void lastDay() {
        says("II", "DAY 0 at first, 999 at most.");
        LentStairs x = Check.of(ABC);
        due("at first", x.has(5), 0);
        goFar(x, 998);
        due("998", x.has(5), 998);
        due("two more", x.go(2), NONE);
        due("stays", x.has(5), 998);
        due("one more", x.go(1), 0);
        due("999", x.has(5), 999);
        due("one more", x.go(1), NONE);
        due("stays", x.has(5), 999);
        due("refused", x.status(2), 2);
        due("lend on the last DAY", x.lend(0, 1, 1, 1, 0), 0);
        due("it can't end by DAYS", x.go(1), NONE);
        due("back on the last DAY", x.back(0), true);
    }

    private static void yards() {
        says("II", "Steps in a yard stay there when a STEP opens.");
        LentStairs x = Check.of(ABC + "loan 1 of a to b days 9 rent 0;");
        due("in the yard", x.has(8), 1);
        x.lend(1, 1, 2, 1, 0);
        due("a STEP opened", x.step(1, 1, 1), 0);
        due("in the yards yet", x.has(8), 2);
        due("FILLS none", x.loan(0, 6), 0);
        due("a later one FILLS it", x.loan(x.lend(0, 2, 1, 1, 0), 6), 1);
        x.go(1);
        due("in the yard yet", x.loan(0, 6), 0);
        due("the first alone", x.has(8), 1);
        x.go(8);
        due("none", x.has(8), 0);
    }

    private static void refitsPaid() {
        says("II", "a BENT STEP refitted (the TOWER pays what its wood costs; it is THERE)");
        for (int cost : new int[] {0, 1, 98, 99}) {
            LentStairs x = Check.of(ABC + "bends 1;wood a costs " + cost + ";loan 1 of a to b days 1 rent 0;");
            x.go(1);
            due("refit", x.refit(0, 1), true);
            due("paid", x.purse(0), -cost);
            due("by none else", x.purse(1), 0);
            due("THERE", x.step(0, 1, 0), 0);
            due("to stand on", x.step(0, 1, 1), 1);
        }
    }

    private static void actsUndone() {
        says("II", "The last 20 can be undone.");
        for (int acts : new int[] {0, 1, 19, 20, 21, 22, 41}) {
            LentStairs x = Check.of(ABC);
            for (int i = 0; i < acts; i++) {
                due("go", x.go(1), 0);
            }
            int kept = Math.min(acts, 20);
            due("can be undone", x.has(9), kept);
            for (int i = 1; i <= kept; i++) {
                due("undo", x.undo(), true);
                due("DAY", x.has(5), acts - i);
                due("left", x.has(9), kept - i);
            }
            due("one more", x.undo(), false);
            due("DAY stays", x.has(5), acts - kept);
            due("refused", x.status(3), 1);
        }
        LentStairs y = Check.of(ABC);
        for (int i = 0; i < 30; i++) {
            y.go(1);
            y.go(2);
            y.undo();
        }
        due("what a 21st ACT put out of reach stays so, when it is undone", y.has(9), 19);
        for (int i = 0; i < 19; i++) {
            due("undo", y.undo(), true);
        }
        due("the DAY of the 19th", y.has(5), 11);
        due("none left", y.undo(), false);
    }

    private static void has() {
        says("6", "NONE for others.");
        LentStairs x = Check.of(ABC);
        due("the first", x.has(0), 3);
        due("the last", x.has(9), 0);
        due("below", x.has(-1), NONE);
        due("behind", x.has(10), NONE);
        for (int what : FAR) {
            due("has " + what, x.has(what), NONE);
        }
        says("6", "2 LOANS (ENDED ones, too), 3 of these not ENDED");
        x.lend(0, 1, 1, 1, 0);
        x.lend(0, 2, 1, 2, 0);
        x.go(1);
        due("all", x.has(2), 2);
        due("not ENDED", x.has(3), 1);
        says("6", "9 ACTS that can be undone");
        due("three", x.has(9), 3);
        due("a refused one is none", x.back(0), false);
        due("three", x.has(9), 3);
    }

    private static void letters() {
        says("7", "Letter k (0 .. 5) of the NAME of a TOWER (kind 0), a GUARD (1): 1 .. 26; 0 behind it; NONE when there is none such.");
        LentStairs x = Check.of("tower abcxyz steps 3;tower q steps 3;guard z of q legs 1 rope 0;");
        int[] first = {1, 2, 3, 24, 25, 26};
        for (int k = 0; k < 6; k++) {
            due("of abcxyz", x.letter(0, 0, k), first[k]);
            due("of q", x.letter(0, 1, k), k == 0 ? 17 : 0);
            due("of z", x.letter(1, 0, k), k == 0 ? 26 : 0);
            due("no TOWER", x.letter(0, 2, k), NONE);
            due("no TOWER", x.letter(0, -1, k), NONE);
            due("no GUARD", x.letter(1, 1, k), NONE);
            due("no kind", x.letter(2, 0, k), NONE);
            due("no kind", x.letter(-1, 0, k), NONE);
        }
        due("below", x.letter(0, 0, -1), NONE);
        due("behind", x.letter(0, 0, 6), NONE);
        due("behind", x.letter(0, 1, 6), NONE);
        for (int far : FAR) {
            due("far", x.letter(far, 0, 0), NONE);
            due("far", x.letter(0, far, 0), NONE);
            due("far", x.letter(1, far, 0), NONE);
            due("far", x.letter(0, 0, far), NONE);
        }
    }

    private static void towers() {
        says("8", "3 whether it is HELD, 4 how many GUARDS, 5 the least legs of these (NONE without).");
        LentStairs x = Check.of(ABC + "guard g of a legs 6 rope 0;guard h of a legs 5 rope 0;guard i of a legs 6 rope 0;"
                + "guard j of b legs 1 rope 0;gap 1 of b;");
        due("HELD", x.tower(0, 3), 1);
        due("three GUARDS", x.tower(0, 4), 3);
        due("the least legs", x.tower(0, 5), 5);
        due("not HELD", x.tower(1, 3), 0);
        due("one GUARD", x.tower(1, 4), 1);
        due("his legs", x.tower(1, 5), 1);
        due("HELD by none", x.tower(2, 3), 1);
        due("no GUARD", x.tower(2, 4), 0);
        due("no legs", x.tower(2, 5), NONE);
        says("8", "NONE when there is none such, or for others.");
        due("below", x.tower(-1, 0), NONE);
        due("the last", x.tower(2, 0), 3);
        due("behind", x.tower(3, 0), NONE);
        due("below", x.tower(0, -1), NONE);
        due("behind", x.tower(0, 6), NONE);
        for (int far : FAR) {
            due("far", x.tower(far, 0), NONE);
            due("far", x.tower(0, far), NONE);
        }
    }

    private static void pursesOf() {
        says("9", "PURSE of a TOWER; NOTHING when there is none such.");
        LentStairs x = Check.of(ABC + "loan 1 of a to c days 1 rent 1;");
        x.go(1);
        due("the first", x.purse(0), 1);
        due("a PURSE of -1 is not NONE", x.purse(2), -1);
        due("behind", x.purse(3), NOTHING);
        due("below", x.purse(-1), NOTHING);
        for (int far : FAR) {
            due("far", x.purse(far), NOTHING);
        }
    }

    private static void steps() {
        says("10", "2 the LOAN that FILLS it (NONE none), 3 the LOAN by which it is LENT (NONE not).");
        LentStairs x = Check.of(ABC + "gap 1 of b;loan 14 of a to b days 9 rent 0;");
        due("FILLED by LOAN 0", x.step(1, 1, 2), 0);
        due("FILLED, not LENT", x.step(1, 1, 3), NONE);
        due("LENT by LOAN 0", x.step(0, 14, 3), 0);
        due("LENT, not FILLED", x.step(0, 14, 2), NONE);
        due("neither", x.step(0, 1, 2), NONE);
        due("neither", x.step(0, 1, 3), NONE);
        x.back(0);
        due("no more", x.step(1, 1, 2), NONE);
        due("no more", x.step(0, 14, 3), NONE);
        x.lend(0, 14, 1, 9, 0);
        due("LOAN 1 now", x.step(1, 1, 2), 1);
        due("LOAN 1 now", x.step(0, 14, 3), 1);
        says("10", "NONE when there is none such, or for others.");
        for (int what = 0; what <= 3; what++) {
            due("ground", x.step(1, 0, what), NONE);
            due("above the TOP", x.step(1, 5, what), NONE);
            due("no TOWER", x.step(3, 1, what), NONE);
            due("no TOWER", x.step(-1, 1, what), NONE);
        }
        due("below", x.step(0, 1, -1), NONE);
        due("behind", x.step(0, 1, 4), NONE);
        for (int far : FAR) {
            due("far", x.step(far, 1, 0), NONE);
            due("far", x.step(0, far, 0), NONE);
            due("far", x.step(0, 1, far), NONE);
        }
    }

    private static void loans() {
        says("11", "3 days left, 4 rent, 5 days away, 6 the STEP that it FILLS (0 none), 7 whether it has ENDED.");
        LentStairs x = Check.of(ABC + "gap 3 of b;loan 14 of a to b days 99 rent 99;loan 1 of c to b days 1 rent 0;");
        int[][] first = {{0, 14, 1, 99, 99, 0, 3, 0}, {2, 1, 1, 1, 0, 0, 0, 0}};
        int[][] then = {{0, 14, 1, 98, 99, 1, 3, 0}, {2, 1, 1, 0, 0, 1, 0, 1}};
        for (int i = 0; i < 2; i++) {
            for (int what = 0; what < 8; what++) {
                due("LOAN " + i + " first " + what, x.loan(i, what), first[i][what]);
            }
        }
        x.go(1);
        for (int i = 0; i < 2; i++) {
            for (int what = 0; what < 8; what++) {
                due("LOAN " + i + " then " + what, x.loan(i, what), then[i][what]);
            }
        }
        says("11", "NONE when there is none such, or for others.");
        due("below", x.loan(-1, 0), NONE);
        due("behind", x.loan(2, 0), NONE);
        due("below", x.loan(0, -1), NONE);
        due("behind", x.loan(0, 8), NONE);
        for (int far : FAR) {
            due("far", x.loan(far, 0), NONE);
            due("far", x.loan(0, far), NONE);
        }
    }

    private static void guards() {
        says("12", "NONE when there is none such, or for others.");
        LentStairs x = Check.of(ABC + "guard g of c legs 6 rope 0;guard h of a legs 1 rope 6;");
        int[][] want = {{2, 6, 0}, {0, 1, 6}};
        for (int g = 0; g < 2; g++) {
            for (int what = 0; what < 3; what++) {
                due("GUARD " + g + " " + what, x.guard(g, what), want[g][what]);
            }
            due("below", x.guard(g, -1), NONE);
            due("behind", x.guard(g, 3), NONE);
        }
        due("below", x.guard(-1, 0), NONE);
        due("behind", x.guard(2, 0), NONE);
        for (int far : FAR) {
            due("far", x.guard(far, 0), NONE);
            due("far", x.guard(0, far), NONE);
        }
    }

    private static void lending() {
        says("13", "A LOAN: its number; NONE, refused (2), when there are none such, it is one TOWER, the STEP is not THERE");
        LentStairs x = Check.of(ABC + "gap 1 of b;bends 1;loan 1 of a to b days 1 rent 0;loan 2 of a to c days 9 rent 0;");
        x.go(1);
        int[][] refused = {{-1, 3, 1}, {3, 1, 1}, {0, 3, -1}, {0, 3, 3}, {0, 0, 1}, {0, 15, 1}, {0, -1, 1}, {1, 5, 0}, {2, 4, 0},
            {0, 3, 0}, {1, 2, 1}, {2, 1, 2}, {1, 1, 0}, {0, 2, 1}, {0, 1, 1}};
        for (int i = 0; i < refused.length; i++) {
            due("lend " + i, x.lend(refused[i][0], refused[i][1], refused[i][2], 1, 0), NONE);
            due("refused", x.status(2), i + 1);
        }
        for (int far : FAR) {
            due("far", x.lend(far, 3, 1, 1, 0), NONE);
            due("far", x.lend(0, far, 1, 1, 0), NONE);
            due("far", x.lend(0, 3, far, 1, 0), NONE);
        }
        due("refused", x.status(2), refused.length + 3 * FAR.length);
        due("LOANS stay", x.has(2), 2);
        due("ACTS stay", x.has(9), 1);
        due("the lowest that is THERE", x.lend(0, 3, 1, 1, 0), 2);
        due("its TOP", x.lend(0, 14, 1, 1, 0), 3);
        due("of the last TOWER", x.lend(2, 3, 0, 1, 0), 4);
        due("refused", x.status(2), refused.length + 3 * FAR.length);
    }

    private static void lendingRefused() {
        says("13", "or there are 24");
        LentStairs x = Check.of(ABC);
        for (int i = 0; i < 23; i++) {
            x.lend(0, 1, 1, 1, 0);
            x.back(i);
        }
        due("23", x.has(2), 23);
        due("the 24th", x.lend(0, 14, 1, 99, 99), 23);
        due("none refused", x.status(2), 0);
        due("a 25th", x.lend(0, 1, 1, 1, 0), NONE);
        due("refused", x.status(2), 1);
        due("how it is stays", x.step(0, 1, 0), 0);
        due("the last", x.loan(23, 1), 14);
        due("behind", x.loan(24, 1), NONE);
    }

    private static void lendingDaysAndRent() {
        says("13", "days (1 .. 99), rent (0 .. 99) can't be");
        LentStairs x = Check.of(ABC);
        for (int days : new int[] {-1, 0, 100, 101, Integer.MIN_VALUE, Integer.MAX_VALUE}) {
            due("days " + days, x.lend(0, 1, 1, days, 0), NONE);
        }
        for (int rent : new int[] {-1, -2, 100, 101, Integer.MIN_VALUE, Integer.MAX_VALUE}) {
            due("rent " + rent, x.lend(0, 1, 1, 1, rent), NONE);
        }
        due("refused", x.status(2), 12);
        int[] numbers = {1, 2, 98, 99};
        for (int i = 0; i < 4; i++) {
            due("days " + numbers[i], x.lend(0, 1 + i, 1, numbers[i], 99 - numbers[i]), i);
            due("days", x.loan(i, 3), numbers[i]);
            due("rent", x.loan(i, 4), 99 - numbers[i]);
        }
        due("rent 99", x.lend(0, 5, 1, 1, 99), 4);
        due("refused", x.status(2), 12);
    }

    private static void backs() {
        says("14", "false, refused (2), when there is none such, or it has ENDED.");
        LentStairs x = Check.of(ABC + "loan 1 of a to b days 1 rent 0;loan 2 of a to b days 2 rent 0;loan 3 of a to b days 3 rent 0;");
        due("below", x.back(-1), false);
        due("behind", x.back(3), false);
        for (int far : FAR) {
            due("far", x.back(far), false);
        }
        due("refused", x.status(2), 2 + FAR.length);
        due("no ACTS", x.has(9), 0);
        due("the last", x.back(2), true);
        due("twice", x.back(2), false);
        x.go(1);
        due("ENDED by days", x.back(0), false);
        due("not yet", x.back(1), true);
        due("refused", x.status(2), 4 + FAR.length);
        due("ACTS", x.has(9), 3);
        due("undone", x.undo(), true);
        due("once more", x.back(1), true);
    }

    private static void refits() {
        says("15", "false, refused (2), when there is none such, or it is not BENT.");
        LentStairs x = Check.of(ABC + "bends 2;gap 2 of a;loan 14 of a to b days 2 rent 0;loan 1 of a to b days 1 rent 0;"
                + "loan 3 of a to b days 9 rent 0;");
        x.go(2);
        due("BENT", x.step(0, 14, 0), 3);
        int[][] refused = {{-1, 14}, {3, 14}, {0, 0}, {0, -1}, {0, 15}, {1, 14}, {0, 1}, {0, 2}, {0, 3}, {0, 13}, {1, 1}};
        for (int[] one : refused) {
            due("refit " + one[0] + " " + one[1], x.refit(one[0], one[1]), false);
        }
        for (int far : FAR) {
            due("far", x.refit(far, 14), false);
            due("far", x.refit(0, far), false);
        }
        due("refused", x.status(2), refused.length + 2 * FAR.length);
        due("not paid", x.purse(0), 0);
        due("ACTS", x.has(9), 1);
        due("the BENT one", x.refit(0, 14), true);
        due("paid", x.purse(0), -1);
        due("twice", x.refit(0, 14), false);
        due("paid once", x.purse(0), -1);
        due("undone", x.undo(), true);
        due("BENT again", x.step(0, 14, 0), 3);
        due("not paid", x.purse(0), 0);
    }

    private static void goes() {
        says("16", "n DAYS (1 .. 100) go by: how many LOANS ENDED; NONE, refused (2), when n can't be, or beyond DAY 999.");
        LentStairs x = Check.of(ABC + "loan 1 of a to b days 1 rent 0;loan 2 of a to b days 1 rent 0;loan 3 of a to b days 99 rent 0;");
        for (int n : new int[] {0, -1, 101, 102, 999, 1000, Integer.MIN_VALUE, Integer.MAX_VALUE}) {
            due("go " + n, x.go(n), NONE);
        }
        due("refused", x.status(2), 8);
        due("DAY stays", x.has(5), 0);
        due("ACTS stay", x.has(9), 0);
        due("one", x.go(1), 2);
        due("a hundred", x.go(100), 1);
        due("two ACTS", x.has(9), 2);
        due("undone", x.undo(), true);
        due("ninety-seven", x.go(97), 0);
        due("ninety-nine", x.go(99), 1);
        due("DAY", x.has(5), 197);
        goFar(x, 703);
        due("DAY", x.has(5), 900);
        due("1000", x.go(100), NONE);
        due("stays", x.has(5), 900);
        due("999", x.go(99), 0);
        due("DAY", x.has(5), 999);
        due("1000", x.go(1), NONE);
        due("0", x.go(0), NONE);
        due("refused", x.status(2), 11);
        LentStairs y = Check.of(ABC);
        goFar(y, 899);
        due("999 by 100", y.go(100), 0);
        due("DAY", y.has(5), 999);
    }

    private static void undoes() {
        says("17", "The latest ACT is undone: true; false, refused (3), when none can be.");
        LentStairs x = Check.of(ABC + "bends 1;");
        due("none", x.undo(), false);
        due("refused", x.status(3), 1);
        x.lend(0, 1, 1, 9, 9);
        x.go(2);
        x.back(0);
        x.refit(0, 1);
        due("four", x.has(9), 4);
        due("refit", x.undo(), true);
        due("BENT", x.step(0, 1, 0), 3);
        due("PURSE", x.purse(0), 18);
        due("back", x.undo(), true);
        due("LENT", x.step(0, 1, 0), 2);
        due("not ENDED", x.loan(0, 7), 0);
        due("days left", x.loan(0, 3), 7);
        due("go", x.undo(), true);
        due("DAY", x.has(5), 0);
        due("PURSE", x.purse(0), 0);
        due("days left", x.loan(0, 3), 9);
        due("days away", x.loan(0, 5), 0);
        due("lend", x.undo(), true);
        due("THERE", x.step(0, 1, 0), 0);
        due("no LOANS", x.has(2), 0);
        due("none", x.undo(), false);
        due("refused", x.status(3), 2);
        due("refusals are not undone", x.status(2), 0);
        x.lend(0, 1, 0, 9, 9);
        due("a refused one", x.status(2), 1);
        due("is no ACT", x.undo(), false);
    }
}
