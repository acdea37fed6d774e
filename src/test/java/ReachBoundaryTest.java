/** Term III sentence by sentence, at each bound, just inside and just outside it; promises 18 to 30. */
public final class ReachBoundaryTest {
    private static final int NONE = LentStairs.NONE;
    private static final int NOTHING = LentStairs.NOTHING;
    private static final int[] FAR = {Integer.MIN_VALUE, -1000000000, -2, 1000, Integer.MAX_VALUE};

    public static void main(String[] args) {
        legs();
        dark();
        ropes();
        reached();
        hops();
        held();
        spareMost();
        spareNotHeld();
        needs();
        rescues();
        rescueFewer();
        falls();
        odds();
        heldBack();
        heldBackSets();
        heldBackGiven();
        netted();
        rings();
        woods();
        lost();
        lostAtLast();
        reachesRefused();
        hopsRefused();
        spareRefused();
        needRefused();
        rescueRefused();
        fallsRefused();
        oddsRefused();
        blameRefused();
        countsOfNothing();
        woodRefused();
        rents();
        lostRefused();
        Check.told("III", "18", "19", "20", "21", "22", "23", "24", "25", "26", "27", "28", "29", "30");
        Check.finish();
    }

    private static void says(String part, String words) {
        Check.says(part, words);
    }

    private static void due(String what, long got, long want) {
        Check.due(what, got, want);
    }

    private static void due(String what, boolean got, boolean want) {
        Check.due(what, got, want);
    }

    /** A TOWER a of so many STEPS, its GAPS from one STEP to another. */
    private static String gapped(int steps, int first, int last) {
        StringBuilder text = new StringBuilder("tower a steps " + steps + ";");
        for (int s = first; s <= last; s++) {
            text.append("gap ").append(s).append(" of a;");
        }
        return text.toString();
    }

    private static String guard(int legs, int rope) {
        return "guard g of a legs " + legs + " rope " + rope + ";";
    }

    private static void legs() {
        says("III", "hops from where he stands to a STEP on which one can stand, at most as many STEPS up as his legs.");
        for (int legs = 1; legs <= 6; legs++) {
            due("from the ground, one less", Check.of(gapped(14, 1, legs - 2) + guard(legs, 0)).reaches(0, 0), 14);
            due("from the ground", Check.of(gapped(14, 1, legs - 1) + guard(legs, 0)).reaches(0, 0), 14);
            due("from the ground, one more", Check.of(gapped(14, 1, legs) + guard(legs, 0)).reaches(0, 0), 0);
            due("from STEP 4", Check.of(gapped(14, 5, 3 + legs) + guard(legs, 0)).reaches(0, 0), 14);
            due("from STEP 4, one more", Check.of(gapped(14, 5, 4 + legs) + guard(legs, 0)).reaches(0, 0), 4);
            due("to the TOP", Check.of(gapped(14, 15 - legs, 13) + guard(legs, 0)).reaches(0, 0), 14);
            due("to the TOP, one more", Check.of(gapped(14, 14 - legs, 13) + guard(legs, 0)).reaches(0, 0), 13 - legs);
        }
    }

    private static void dark() {
        says("III", "In the DARK his legs are one less (at least 1)");
        for (int legs = 1; legs <= 6; legs++) {
            int inDark = Math.max(1, legs - 1);
            due("as far", Check.of(gapped(14, 5, 3 + inDark) + guard(legs, 0)).reaches(0, 1), 14);
            due("one more", Check.of(gapped(14, 5, 4 + inDark) + guard(legs, 0)).reaches(0, 1), 4);
            due("as far, by day", Check.of(gapped(14, 5, 4 + inDark) + guard(legs, 0)).reaches(0, 0), legs == 1 ? 4 : 14);
        }
    }

    private static void ropes() {
        says("III", "with ROPE one of his hops may be longer by as much as his rope.");
        for (int legs : new int[] {1, 2, 6}) {
            for (int rope = 0; rope <= 6; rope++) {
                LentStairs x = Check.of(gapped(14, 2, legs + rope) + guard(legs, rope));
                due("as far", x.reaches(0, 2), 14);
                due("without", x.reaches(0, 0), rope == 0 ? 14 : 1);
                due("in the DARK", x.reaches(0, 3), legs == 1 ? 14 : 1);
                if (legs + rope < 12) {
                    LentStairs y = Check.of(gapped(14, 2, legs + rope + 1) + guard(legs, rope));
                    due("one more", y.reaches(0, 2), 1);
                    due("one more, in the DARK", y.reaches(0, 3), 1);
                }
            }
        }
        String two = "tower a steps 6;gap 2 of a;gap 4 of a;";
        due("one hop alone", Check.of(two + guard(1, 1)).reaches(0, 2), 3);
        due("one hop alone, longer", Check.of(two + guard(1, 2)).reaches(0, 2), 3);
        due("one hop over both", Check.of(two + guard(1, 3)).reaches(0, 2), 6);
        due("the longest hop", Check.of(gapped(14, 1, 11) + guard(6, 6)).reaches(0, 2), 14);
        due("longer than the longest", Check.of(gapped(14, 1, 12) + guard(6, 6)).reaches(0, 2), 0);
        due("the longest in the DARK", Check.of(gapped(14, 1, 10) + guard(6, 6)).reaches(0, 3), 14);
        due("longer in the DARK", Check.of(gapped(14, 1, 11) + guard(6, 6)).reaches(0, 3), 0);
    }

    private static void reached() {
        says("III", "REACHES: the highest STEP he can stand on so (0 the ground).");
        LentStairs x = Check.of(gapped(3, 1, 2) + "tower b steps 3;" + guard(2, 0));
        due("the ground", x.reaches(0, 0), 0);
        due("the first STEP FILLED", x.lend(1, 1, 0, 9, 0), 0);
        due("the TOP", x.reaches(0, 0), 3);
        x.lend(0, 3, 1, 9, 0);
        due("the TOP is LENT", x.reaches(0, 0), 1);
        x.lend(1, 2, 0, 9, 0);
        due("the second one", x.reaches(0, 0), 2);
        due("not the TOP", x.tower(0, 3), 0);
        x.lend(1, 3, 0, 9, 0);
        due("the TOP is FILLED", x.reaches(0, 0), 3);
    }

    private static void hops() {
        says("III", "HOPS: the fewest to the TOP (without ROPE, by day).");
        int[] most = {14, 7, 5, 4, 3, 3};
        int[] least = {3, 2, 1, 1, 1, 1};
        for (int legs = 1; legs <= 6; legs++) {
            due("of 14", Check.of("tower a steps 14;" + guard(legs, 6)).hops(0), most[legs - 1]);
            due("of 3", Check.of("tower a steps 3;" + guard(legs, 6)).hops(0), least[legs - 1]);
        }
        due("not by ROPE", Check.of(gapped(3, 1, 1) + guard(1, 6)).hops(0), NONE);
        due("a hop as long as his legs", Check.of(gapped(3, 1, 1) + guard(2, 0)).hops(0), 2);
        due("over a GAP", Check.of(gapped(7, 3, 3) + guard(3, 0)).hops(0), 3);
    }

    private static void held() {
        says("III", "A TOWER is HELD, if each of its GUARDS REACHES its TOP by day, without ROPE.");
        String hole = gapped(5, 2, 2) + "tower b steps 3;";
        due("no GUARDS", Check.of(hole).tower(0, 3), 1);
        due("all", Check.of(hole + guard(2, 0) + "guard h of a legs 3 rope 0;").tower(0, 3), 1);
        due("one does not", Check.of(hole + guard(2, 0) + "guard h of a legs 1 rope 6;").tower(0, 3), 0);
        due("one does not", Check.of(hole + guard(1, 6) + "guard h of a legs 6 rope 0;").tower(0, 3), 0);
        due("another TOWER's GUARD", Check.of(hole + "guard h of b legs 1 rope 0;").has(6), 2);
        due("another TOWER's GUARD", Check.of(hole + guard(1, 0) + "guard h of b legs 1 rope 0;").has(6), 1);
        LentStairs x = Check.of(hole);
        x.lend(0, 5, 1, 9, 0);
        due("no GUARDS, no TOP", x.tower(0, 3), 1);
    }

    private static void spares(LentStairs x, int tower, int... steps) {
        due("how many", x.spare(tower, NONE), steps.length);
        for (int k = 0; k < steps.length; k++) {
            due("the " + k + "-th", x.spare(tower, k), steps[k]);
        }
        due("behind", x.spare(tower, steps.length), NONE);
    }

    private static void needsOf(LentStairs x, int tower, int... steps) {
        due("how many", x.need(tower, NONE), steps.length);
        for (int k = 0; k < steps.length; k++) {
            due("the " + k + "-th", x.need(tower, k), steps[k]);
        }
        due("behind", x.need(tower, steps.length), NONE);
    }

    private static void spareMost() {
        says("III", "SPARE: the most STEPS (THERE, not the TOP) that could be LENT at once so that it is HELD yet;"
                + " of like ones those with the least bits");
        spares(Check.of("tower a steps 3;" + guard(1, 0)), 0);
        spares(Check.of("tower a steps 3;" + guard(2, 0)), 0, 1);
        spares(Check.of("tower a steps 3;" + guard(3, 0)), 0, 1, 2);
        spares(Check.of("tower a steps 3;"), 0, 1, 2);
        spares(Check.of(gapped(3, 1, 1)), 0, 2);
        spares(Check.of(gapped(3, 1, 2)), 0);
        spares(Check.of(gapped(3, 1, 2) + guard(3, 0)), 0);
        spares(Check.of("tower a steps 14;" + guard(6, 0)), 0, 1, 2, 3, 4, 5, 7, 8, 9, 10, 11, 13);
        spares(Check.of("tower a steps 14;"), 0, 1, 2, 3, 4, 5, 6, 7, 8, 9, 10, 11, 12, 13);
        spares(Check.of("tower a steps 14;" + guard(1, 6)), 0);
        spares(Check.of("tower a steps 14;" + guard(6, 0) + "guard h of a legs 1 rope 0;"), 0);
        spares(Check.of("tower a steps 4;" + guard(3, 0)), 0, 1, 2);
        spares(Check.of(gapped(4, 3, 3) + guard(3, 0)), 0, 1);
        LentStairs x = Check.of(gapped(4, 1, 2) + "tower b steps 3;loan 1 of b to a days 9 rent 0;" + guard(3, 0));
        spares(x, 0, 3);
        x.lend(1, 2, 0, 9, 0);
        spares(x, 0, 3);
        due("FILLED ones are not THERE", x.tower(0, 2), 4);
    }

    private static void spareNotHeld() {
        says("III", "(SPARE of one that is not HELD: 0; of one HELD NEED is 0.)");
        LentStairs x = Check.of(gapped(5, 1, 1) + "tower b steps 5;" + guard(1, 6) + "guard h of b legs 1 rope 0;");
        spares(x, 0);
        needsOf(x, 0, 1);
        spares(x, 1);
        needsOf(x, 1);
        x.lend(1, 5, 0, 9, 0);
        spares(x, 0);
        needsOf(x, 0);
        spares(x, 1);
        needsOf(x, 1, 5);
        LentStairs y = Check.of(gapped(5, 1, 4) + "tower b steps 3;loan 5 of a to b days 1 rent 0;");
        needsOf(y, 0);
        spares(y, 0);
    }

    private static void needs() {
        says("III", "NEED: the fewest STEPS, on which one can't stand, to be FILLED, so that it is HELD; of like ones the least bits.");
        for (int legs = 1; legs <= 6; legs++) {
            needsOf(Check.of(gapped(14, 5, 3 + legs) + guard(legs, 0)), 0);
        }
        needsOf(Check.of(gapped(14, 5, 10) + guard(6, 0)), 0, 5);
        needsOf(Check.of(gapped(14, 5, 5) + guard(1, 6)), 0, 5);
        needsOf(Check.of(gapped(14, 1, 13) + guard(6, 0)), 0, 2, 8);
        needsOf(Check.of(gapped(14, 1, 13) + guard(1, 0)), 0, 1, 2, 3, 4, 5, 6, 7, 8, 9, 10, 11, 12, 13);
        needsOf(Check.of(gapped(14, 1, 13) + guard(6, 0) + "guard h of a legs 5 rope 6;"), 0, 4, 9);
        LentStairs x = Check.of(gapped(4, 1, 3) + "tower b steps 3;" + guard(3, 0) + "loan 4 of a to b days 9 rent 0;");
        needsOf(x, 0, 1, 4);
        x.lend(1, 1, 0, 9, 0);
        needsOf(x, 0, 4);
    }

    private static void rescues() {
        says("III", "for each TOWER that has NEED, by numbers, each STEP of its NEED from the lowest on,"
                + " one STEP of the SPARE ones of the first TOWER that has one left, the lowest first.");
        LentStairs x = Check.of("tower a steps 3;tower b steps 4;tower c steps 4;tower d steps 3;gap 1 of a;gap 1 of c;gap 3 of c;"
                + "guard g of a legs 1 rope 0;guard h of b legs 3 rope 0;guard i of c legs 1 rope 0;");
        spares(x, 1, 1, 2);
        spares(x, 3, 1, 2);
        int[][] want = {{1, 1, 0, 1}, {1, 2, 2, 1}, {3, 1, 2, 3}};
        due("how many", x.rescue(NONE, 0), 3);
        for (int k = 0; k < 3; k++) {
            for (int what = 0; what < 4; what++) {
                due("of " + k + " " + what, x.rescue(k, what), want[k][what]);
            }
        }
        for (int k = 0; k < 3; k++) {
            due("lent so", x.lend(want[k][0], want[k][1], want[k][2], 9, 0), k);
            due("fills so", x.loan(k, 6), want[k][3]);
        }
        due("all HELD", x.has(6), 4);
        due("none left", x.rescue(NONE, 0), 0);
    }

    private static void rescueFewer() {
        says("III", "(None such when SPARE ones are fewer.)");
        String two = "tower a steps 3;tower b steps 3;guard g of a legs 2 rope 0;guard h of b legs 1 rope 0;";
        due("none needed", Check.of(two).rescue(NONE, 0), 0);
        due("as many", Check.of(two + "gap 1 of b;").rescue(NONE, 0), 1);
        due("as many: its STEP", Check.of(two + "gap 1 of b;").rescue(0, 1), 1);
        due("one fewer", Check.of(two + "gap 1 of b;gap 2 of b;").rescue(NONE, 0), NONE);
        due("one fewer: the first", Check.of(two + "gap 1 of b;gap 2 of b;").rescue(0, 0), NONE);
        due("one of three", Check.of(two + "gap 1 of b;gap 2 of b;tower c steps 3;").rescue(NONE, 0), 2);
        due("a TOWER alone", Check.of("tower a steps 3;gap 1 of a;guard g of a legs 1 rope 0;").rescue(NONE, 0), NONE);
        due("no TOWERS", new LentStairs().rescue(NONE, 0), 0);
    }

    private static void falls() {
        says("III", "An ENEMY of legs FALLS at the highest STEP that he REACHES (by day, without ROPE), if that is not the TOP.");
        for (int run = 0; run <= 5; run++) {
            LentStairs x = Check.of(gapped(14, 14 - run, 13));
            for (int legs = 1; legs <= 6; legs++) {
                due(run + " GAPS below the TOP, legs " + legs, x.falls(0, legs), legs > run ? NONE : 13 - run);
            }
            LentStairs y = Check.of(gapped(14, 1, run));
            for (int legs = 1; legs <= 6; legs++) {
                due(run + " GAPS above the ground, legs " + legs, y.falls(0, legs), legs > run ? NONE : 0);
            }
        }
        LentStairs z = Check.of("tower a steps 3;tower b steps 3;loan 3 of a to b days 1 rent 0;");
        due("the TOP is LENT", z.falls(0, 6), 2);
    }

    private static void odds() {
        says("III", "ODDS that a TOWER falls: floor(1000 times the odds of those who reach its TOP / all).");
        String all = "enemy 1 odds 99;enemy 2 odds 99;enemy 3 odds 99;enemy 4 odds 99;enemy 5 odds 99;enemy 6 odds 1;";
        // 496, 397, 298, 199, 100, 1 of 496: 800.4, 600.8, 401.2, 201.6, 2.01 thousandths
        int[] want = {1000, 800, 600, 401, 201, 2};
        for (int run = 0; run <= 5; run++) {
            due(run + " GAPS", Check.of(gapped(14, 14 - run, 13) + all).odds(0), want[run]);
        }
        due("two thirds", Check.of(gapped(3, 1, 1) + "enemy 1 odds 1;enemy 2 odds 2;").odds(0), 666);
        due("one third", Check.of(gapped(3, 1, 1) + "enemy 1 odds 2;enemy 2 odds 1;").odds(0), 333);
        due("one of a hundred", Check.of(gapped(3, 1, 1) + "enemy 1 odds 99;enemy 2 odds 1;").odds(0), 10);
        due("99 of a hundred", Check.of(gapped(3, 1, 1) + "enemy 1 odds 1;enemy 2 odds 99;").odds(0), 990);
        due("all", Check.of(gapped(3, 1, 1) + "enemy 2 odds 99;").odds(0), 1000);
        due("none", Check.of(gapped(3, 1, 1) + "enemy 1 odds 99;").odds(0), 0);
    }

    private static void blames(LentStairs x, int fewest, int bits, int sets) {
        due("fewest", x.blame(0, 0), fewest);
        due("bits", x.blame(0, 1), bits);
        due("sets", x.blame(0, 2), sets);
    }

    private static void heldBack() {
        says("III", "HELD BACK is a GUARD who does not REACH his TOP (by day, without ROPE)");
        LentStairs x = Check.of("tower a steps 3;tower b steps 3;guard g of a legs 2 rope 6;loan 1 of a to b days 9 rent 0;");
        blames(x, NONE, NONE, NONE);
        x.lend(0, 2, 1, 9, 0);
        blames(x, 1, 1, 2);
        due("by ROPE he would", x.reaches(0, 2), 3);
        LentStairs y = Check.of("tower a steps 3;tower b steps 3;guard g of a legs 1 rope 0;gap 1 of a;loan 2 of a to b days 9 rent 0;");
        blames(y, NONE, NONE, NONE);
        y.lend(1, 1, 0, 9, 0);
        blames(y, 1, 1, 1);
        y.back(0);
        blames(y, NONE, NONE, NONE);
    }

    private static void heldBackSets() {
        says("III", "the fewest LOANS, the least bits of like ones (by LOANS' numbers), how many such sets of the fewest.");
        StringBuilder up = new StringBuilder("tower a steps 14;tower b steps 3;guard g of a legs 6 rope 0;");
        for (int s = 1; s <= 12; s++) {
            up.append("loan ").append(s).append(" of a to b days 99 rent 0;");
        }
        LentStairs x = Check.of(up.toString());
        blames(x, 2, 1 + (1 << 6), 21);
        due("the 13th, too", x.lend(0, 13, 1, 99, 0), 12);
        blames(x, 2, (1 << 1) + (1 << 7), 15);
        due("the TOP, too", x.lend(0, 14, 1, 99, 0), 13);
        blames(x, 3, (1 << 1) + (1 << 7) + (1 << 13), 15);
        LentStairs y = Check.of("tower a steps 14;tower b steps 3;guard g of a legs 1 rope 0;");
        for (int i = 0; i < 23; i++) {
            y.lend(0, 1, 1, 1, 0);
            y.back(i);
        }
        due("the last LOAN", y.lend(0, 14, 1, 99, 0), 23);
        blames(y, 1, 1 << 23, 1);
        LentStairs z = Check.of("tower a steps 14;tower b steps 3;guard g of a legs 1 rope 0;");
        for (int s = 14; s >= 1; s--) {
            z.lend(0, s, 1, 99, 0);
        }
        blames(z, 14, (1 << 14) - 1, 1);
    }

    private static void heldBackGiven() {
        says("III", "sets of LOANS of his TOWER's STEPS that have not ENDED, by which, were they all given back now (THERE, not BENT), he would");
        LentStairs x = Check.of("tower a steps 3;tower b steps 3;guard g of a legs 1 rope 0;bends 1;"
                + "loan 1 of a to b days 1 rent 0;loan 3 of a to b days 9 rent 0;loan 1 of b to a days 9 rent 0;");
        due("its STEP 1 is FILLED", x.loan(2, 6), 1);
        blames(x, 1, 2, 1);
        x.go(1);
        due("BENT", x.step(0, 1, 0), 3);
        blames(x, 1, 2, 1);
        x.back(2);
        due("STEP 1 is BENT, its LOAN has ENDED", x.step(0, 1, 1), 0);
        blames(x, NONE, NONE, NONE);
        x.refit(0, 1);
        blames(x, 1, 2, 1);
        x.back(1);
        due("BENT, when it is given back", x.step(0, 3, 0), 3);
        blames(x, NONE, NONE, NONE);
    }

    private static void netted() {
        says("III", "the fewest LOANS that leave each TOWER as many lent, or borrowed, more than the other.");
        String four = "tower a steps 14;tower b steps 14;tower c steps 14;tower d steps 14;";
        LentStairs x = Check.of(four);
        due("none", x.netted(), 0);
        x.lend(0, 1, 1, 9, 0);
        due("one", x.netted(), 1);
        x.lend(1, 1, 0, 1, 0);
        due("two cancel out", x.netted(), 0);
        x.lend(1, 2, 2, 9, 0);
        due("b to c", x.netted(), 1);
        x.lend(0, 2, 1, 9, 0);
        due("a to b to c", x.netted(), 1);
        x.lend(3, 1, 2, 9, 0);
        due("d to c", x.netted(), 2);
        x.go(1);
        due("one has ENDED", x.netted(), 3);
        LentStairs y = Check.of(four);
        for (int i = 0; i < 24; i++) {
            y.lend(i < 12 ? 0 : 1, i % 12 + 1, i < 12 ? 2 : 3, 9, 0);
            due("as many as there are", y.netted(), i + 1);
        }
    }

    private static void rings() {
        says("III", "A RING: TOWERS each of which has lent to the next one, the last one to the first: the fewest (2 and on).");
        String four = "tower a steps 14;tower b steps 14;tower c steps 14;tower d steps 14;";
        LentStairs x = Check.of(four);
        int[][] lent = {{0, 1}, {1, 2}, {2, 3}, {0, 2}, {3, 0}, {2, 0}, {1, 0}};
        int[] want = {0, 0, 0, 0, 3, 2, 2};
        for (int i = 0; i < lent.length; i++) {
            due("lend", x.lend(lent[i][0], i + 1, lent[i][1], 9, 0), i);
            due("behind " + i, x.ring(), want[i]);
        }
        LentStairs y = Check.of(four);
        for (int i = 0; i < 4; i++) {
            due("none yet", y.ring(), 0);
            y.lend(i, 1, (i + 1) % 4, i + 1, 0);
        }
        due("four", y.ring(), 4);
        y.go(1);
        due("one has ENDED", y.ring(), 0);
        LentStairs z = Check.of("tower a steps 3;tower b steps 3;loan 1 of a to b days 9 rent 0;");
        due("one is none", z.ring(), 0);
        z.lend(0, 2, 1, 9, 0);
        due("twice the same way is none", z.ring(), 0);
        z.lend(1, 1, 0, 9, 0);
        due("two", z.ring(), 2);
    }

    private static void woods() {
        says("III", "LEAST WOOD of a GUARD: the least that must be paid for BENT STEPS refitted so that he REACHES his TOP");
        for (int cost : new int[] {0, 1, 99}) {
            LentStairs x = Check.of("tower a steps 14;tower b steps 3;bends 1;wood a costs " + cost + ";" + guard(1, 6)
                    + "guard h of a legs 6 rope 0;");
            due("nothing to be paid", x.wood(0), 0);
            for (int s = 1; s <= 14; s++) {
                x.lend(0, s, 1, s <= 13 ? 1 : 2, 0);
            }
            due("none is BENT", x.wood(0), NONE);
            x.go(1);
            due("the TOP is LENT", x.wood(1), NONE);
            x.go(1);
            due("all are BENT", x.wood(0), 14 * cost);
            due("long legs", x.wood(1), 3 * cost);
            x.refit(0, 14);
            due("one less", x.wood(0), 13 * cost);
            due("one less", x.wood(1), 2 * cost);
            x.lend(1, 1, 0, 9, 0);
            due("one FILLED", x.wood(0), 12 * cost);
        }
    }

    private static void lost() {
        says("III", "LOST: the first DAY, now or 100 DAYS on at most (999 at most), as DAYS go by without other ACTS,"
                + " at whose end a TOWER is not HELD.");
        String text = "tower a steps 3;tower b steps 3;gap 1 of b;guard g of b legs 1 rope 0;";
        due("now", Check.of(text).lost(1), 0);
        for (int days : new int[] {1, 2, 98, 99}) {
            LentStairs x = Check.of(text + "loan 1 of a to b days " + days + " rent 0;");
            due("when it ENDS", x.lost(1), days);
            x.go(1);
            due("the same DAY", x.lost(1), days);
            due("nothing has changed", x.has(5), 1);
        }
        LentStairs y = Check.of(text + "gap 2 of b;loan 1 of a to b days 9 rent 0;loan 2 of a to b days 5 rent 0;");
        due("the first of two", y.lost(1), 5);
        y.go(4);
        y.lend(0, 3, 1, 9, 0);
        due("in the yard it is no help", y.lost(1), 5);
        y.go(1);
        due("now", y.lost(1), 5);
        y.go(1);
        due("now again", y.lost(1), 6);
        LentStairs z = Check.of("tower a steps 3;tower b steps 3;guard g of a legs 1 rope 0;loan 1 of a to b days 5 rent 0;");
        due("lost now, though not later", z.lost(0), 0);
        z.go(5);
        due("not at all", z.lost(0), NONE);
    }

    private static void lostAtLast() {
        says("III", "(999 at most)");
        LentStairs x = Check.of("tower a steps 3;tower b steps 3;gap 1 of b;guard g of b legs 1 rope 0;");
        for (int i = 0; i < 9; i++) {
            x.go(100);
        }
        x.lend(0, 1, 1, 99, 0);
        due("999", x.lost(1), 999);
        x.go(1);
        due("999 yet", x.lost(1), 999);
        x.undo();
        x.undo();
        x.go(1);
        x.lend(0, 1, 1, 99, 0);
        due("1000 is beyond", x.lost(1), NONE);
        x.back(0);
        due("now", x.lost(1), 901);
        x.go(98);
        due("now, on the last DAY", x.lost(1), 999);
        x.lend(0, 1, 1, 1, 0);
        due("no DAY is left", x.lost(1), NONE);
    }

    private static void reachesRefused() {
        says("18", "NONE when there is none such, or for others.");
        LentStairs x = Check.of(gapped(14, 2, 4) + guard(3, 2));
        int[] want = {1, 1, 14, 14};
        for (int how = 0; how < 4; how++) {
            due("how " + how, x.reaches(0, how), want[how]);
            due("no GUARD", x.reaches(1, how), NONE);
            due("no GUARD", x.reaches(-1, how), NONE);
        }
        due("below", x.reaches(0, -1), NONE);
        due("behind", x.reaches(0, 4), NONE);
        for (int far : FAR) {
            due("far", x.reaches(far, 0), NONE);
            due("far", x.reaches(0, far), NONE);
        }
    }

    private static void hopsRefused() {
        says("19", "HOPS of a GUARD; NONE when he can't, or there is none such.");
        LentStairs x = Check.of(gapped(14, 2, 4) + guard(3, 2) + "guard h of a legs 4 rope 0;");
        due("he can't", x.hops(0), NONE);
        due("he can", x.hops(1), 5);
        due("below", x.hops(-1), NONE);
        due("behind", x.hops(2), NONE);
        for (int far : FAR) {
            due("far", x.hops(far), NONE);
        }
    }

    private static void spareRefused() {
        says("20", "SPARE of a TOWER: how many (k NONE), the k-th STEP from the lowest on; NONE when there is none such.");
        LentStairs x = Check.of("tower a steps 14;tower b steps 3;" + guard(6, 0));
        due("how many", x.spare(0, NONE), 11);
        due("the lowest", x.spare(0, 0), 1);
        due("the last", x.spare(0, 10), 13);
        due("behind", x.spare(0, 11), NONE);
        due("below NONE", x.spare(0, -2), NONE);
        due("no TOWER", x.spare(2, NONE), NONE);
        due("no TOWER", x.spare(-1, NONE), NONE);
        due("no TOWER", x.spare(2, 0), NONE);
        for (int far : FAR) {
            due("far", x.spare(far, 0), NONE);
            due("far", x.spare(far, NONE), NONE);
            due("far", x.spare(0, far), NONE);
        }
    }

    private static void needRefused() {
        says("21", "NEED of a TOWER, likewise.");
        LentStairs x = Check.of(gapped(14, 1, 13) + "tower b steps 3;" + guard(1, 0));
        due("how many", x.need(0, NONE), 13);
        due("the lowest", x.need(0, 0), 1);
        due("the last", x.need(0, 12), 13);
        due("behind", x.need(0, 13), NONE);
        due("below NONE", x.need(0, -2), NONE);
        due("of one HELD", x.need(1, NONE), 0);
        due("of one HELD", x.need(1, 0), NONE);
        due("no TOWER", x.need(2, NONE), NONE);
        due("no TOWER", x.need(-1, NONE), NONE);
        for (int far : FAR) {
            due("far", x.need(far, 0), NONE);
            due("far", x.need(far, NONE), NONE);
            due("far", x.need(0, far), NONE);
        }
    }

    private static void rescueRefused() {
        says("22", "NONE when there is none such, or for others.");
        LentStairs x = Check.of("tower a steps 3;tower b steps 3;gap 1 of b;guard g of b legs 1 rope 0;");
        due("how many", x.rescue(NONE, 0), 1);
        due("of", x.rescue(0, 0), 0);
        due("STEP", x.rescue(0, 1), 1);
        due("to", x.rescue(0, 2), 1);
        due("to fill", x.rescue(0, 3), 1);
        due("below", x.rescue(0, -1), NONE);
        due("behind", x.rescue(0, 4), NONE);
        for (int what = 0; what < 4; what++) {
            due("behind the last", x.rescue(1, what), NONE);
            due("below NONE", x.rescue(-2, what), NONE);
        }
        for (int far : FAR) {
            due("far", x.rescue(far, 0), NONE);
            due("far", x.rescue(0, far), NONE);
        }
    }

    private static void fallsRefused() {
        says("23", "(1 .. 6) FALLS (0 the ground); NONE when he reaches the TOP, or something can't be.");
        LentStairs x = Check.of(gapped(14, 1, 13) + "tower b steps 3;enemy 2 odds 5;");
        due("legs 0", x.falls(0, 0), NONE);
        due("legs 1", x.falls(0, 1), 0);
        due("legs 6", x.falls(0, 6), 0);
        due("legs 7", x.falls(0, 7), NONE);
        due("legs 14", x.falls(0, 14), NONE);
        due("he reaches it", x.falls(1, 1), NONE);
        due("no TOWER", x.falls(2, 1), NONE);
        due("no TOWER", x.falls(-1, 1), NONE);
        for (int far : FAR) {
            due("far", x.falls(far, 1), NONE);
            due("far", x.falls(0, far), NONE);
        }
    }

    private static void oddsRefused() {
        says("24", "in thousandths; NONE when there is none such, or no ENEMY.");
        LentStairs x = Check.of("tower a steps 3;tower b steps 3;enemy 6 odds 1;");
        due("the last TOWER", x.odds(1), 1000);
        due("behind", x.odds(2), NONE);
        due("below", x.odds(-1), NONE);
        for (int far : FAR) {
            due("far", x.odds(far), NONE);
        }
        due("no ENEMY", Check.of("tower a steps 3;").odds(0), NONE);
        due("an ENEMY, no TOWER", Check.of("enemy 6 odds 1;").odds(0), NONE);
    }

    private static void blameRefused() {
        says("25", "NONE when he is not HELD BACK, no LOANS would do, there is none such, or for others.");
        LentStairs x = Check.of("tower a steps 3;tower b steps 3;tower c steps 3;guard g of a legs 1 rope 0;guard h of b legs 1 rope 0;"
                + "guard i of c legs 1 rope 0;gap 1 of c;loan 3 of a to b days 9 rent 0;loan 3 of c to b days 9 rent 0;");
        blames(x, 1, 1, 1);
        for (int what = 0; what < 3; what++) {
            due("not HELD BACK", x.blame(1, what), NONE);
            due("no LOANS would do", x.blame(2, what), NONE);
            due("none such", x.blame(3, what), NONE);
            due("none such", x.blame(-1, what), NONE);
        }
        due("below", x.blame(0, -1), NONE);
        due("behind", x.blame(0, 3), NONE);
        for (int far : FAR) {
            due("far", x.blame(far, 0), NONE);
            due("far", x.blame(0, far), NONE);
        }
    }

    private static void countsOfNothing() {
        says("26", "NETTED: how many LOANS.");
        due("no TOWERS", new LentStairs().netted(), 0);
        LentStairs x = Check.of("tower a steps 3;tower b steps 3;loan 1 of a to b days 1 rent 0;");
        due("one", x.netted(), 1);
        x.go(1);
        due("ENDED", x.netted(), 0);
        says("27", "A RING: how many TOWERS; 0 without.");
        due("no TOWERS", new LentStairs().ring(), 0);
        due("no LOANS", x.ring(), 0);
        x.lend(0, 1, 1, 1, 0);
        due("no RING", x.ring(), 0);
        x.lend(1, 1, 0, 1, 0);
        due("a RING", x.ring(), 2);
    }

    private static void woodRefused() {
        says("28", "LEAST WOOD of a GUARD; NONE when none is enough, or there is none such.");
        LentStairs x = Check.of("tower a steps 3;tower b steps 3;gap 1 of a;bends 1;guard g of a legs 1 rope 6;guard h of b legs 1 rope 0;"
                + "loan 2 of a to b days 1 rent 0;");
        x.go(1);
        due("none is enough", x.wood(0), NONE);
        due("none must be paid", x.wood(1), 0);
        x.lend(1, 1, 0, 9, 0);
        due("one is enough", x.wood(0), 1);
        due("none is BENT", x.wood(1), NONE);
        due("below", x.wood(-1), NONE);
        due("behind", x.wood(2), NONE);
        for (int far : FAR) {
            due("far", x.wood(far), NONE);
        }
    }

    private static void rents() {
        says("29", "By how much a TOWER's PURSE would be more behind n DAYS (0 .. 100) without other ACTS;"
                + " NOTHING when something can't be, or beyond DAY 999.");
        LentStairs x = Check.of("tower a steps 3;tower b steps 3;loan 1 of a to b days 99 rent 99;loan 1 of b to a days 2 rent 1;");
        int[][] want = {{0, 0}, {1, 98}, {2, 196}, {3, 295}, {98, 9700}, {99, 9799}, {100, 9799}};
        for (int[] one : want) {
            due("a behind " + one[0], x.rents(0, one[0]), one[1]);
            due("b behind " + one[0], x.rents(1, one[0]), -one[1]);
        }
        due("below", x.rents(0, -1), NOTHING);
        due("beyond", x.rents(0, 101), NOTHING);
        due("no TOWER", x.rents(2, 1), NOTHING);
        due("no TOWER", x.rents(-1, 1), NOTHING);
        for (int far : FAR) {
            due("far", x.rents(far, 0), NOTHING);
            due("far", x.rents(0, far), NOTHING);
        }
        due("no PURSE has changed", x.purse(0), 0);
        x.go(1);
        due("from now on", x.rents(0, 1), 98);
        due("-1 is no NONE", Check.of("tower a steps 3;tower b steps 3;loan 1 of a to b days 1 rent 1;").rents(1, 1), -1);
        for (int i = 0; i < 8; i++) {
            x.go(100);
        }
        x.go(98);
        due("DAY 899, a hundred", x.rents(0, 100), 0);
        x.go(1);
        due("DAY 900, a hundred", x.rents(0, 100), NOTHING);
        due("DAY 900, ninety-nine", x.rents(0, 99), 0);
        x.go(99);
        due("DAY 999, none", x.rents(0, 0), 0);
        due("DAY 999, one", x.rents(0, 1), NOTHING);
    }

    private static void lostRefused() {
        says("30", "LOST, of a TOWER: the DAY (now, too); NONE when it is not, or there is none such.");
        LentStairs x = Check.of("tower a steps 3;tower b steps 3;gap 1 of b;guard g of b legs 1 rope 0;guard h of a legs 1 rope 0;");
        due("not lost", x.lost(0), NONE);
        due("now", x.lost(1), 0);
        x.go(7);
        due("now", x.lost(1), 7);
        due("below", x.lost(-1), NONE);
        due("behind", x.lost(2), NONE);
        for (int far : FAR) {
            due("far", x.lost(far), NONE);
        }
    }
}
