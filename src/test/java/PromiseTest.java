/** Promise by promise: ordinary calls, the edges that the document names, wrong calls. */
public final class PromiseTest {
    private static final int NONE = LentStairs.NONE;
    private static final int NOTHING = LentStairs.NOTHING;
    private static final String TWO = "tower ka steps 5; tower mo steps 4; wood ka costs 7;"
            + "gap 2 of ka; gap 1 of mo; guard ann of ka legs 2 rope 1; guard bob of mo legs 1 rope 2;"
            + "loan 3 of ka to mo days 2 rent 5; bends 2; enemy 1 odds 3; enemy 3 odds 1;";
    private static final String PLAIN = "tower a steps 5; tower b steps 4; tower c steps 3;";

    public static void main(String[] args) {
        newObject();
        tape();
        realmWholes();
        realmWords();
        realmNumbers();
        realmNames();
        realmKinds();
        realmReplaces();
        counts();
        facts();
        lending();
        givingBack();
        refitting();
        days();
        undoing();
        reaching();
        sparing();
        rescuing();
        enemies();
        blaming();
        nets();
        wood();
        toCome();
        questions();
        questionFaults();
        images();
        Check.finish();
    }

    private static void due(String what, long got, long want) {
        Check.due(what, got, want);
    }

    private static void due(String what, boolean got, boolean want) {
        Check.due(what, got, want);
    }

    private static void newObject() {
        LentStairs x = new LentStairs();
        due("fault ahead of any", x.fault(0), 0);
        due("place ahead of any", x.fault(1), NONE);
        for (int what = 0; what < 10; what++) {
            due("new has " + what, x.has(what), what == 4 ? 99 : 0);
        }
        for (int what = 0; what < 4; what++) {
            due("new status " + what, x.status(what), 0);
        }
        due("no image", x.octet(0), NONE);
        due("no rescue needed", x.rescue(NONE, 0), 0);
        due("no tower", x.tower(0, 0), NONE);
        due("no guard", x.guard(0, 0), NONE);
        due("nothing to undo", x.undo(), false);
        due("days go by", x.go(1), 0);
        Check.asks(x, "first all", 1);
    }

    private static void tape() {
        LentStairs x = new LentStairs();
        due("no towers", x.has(0), 0);
        for (int i = 1; i <= 80; i++) {
            due("feed", x.feed(i, -1, 0, 1, 2), 20 * i);
        }
        due("feed over", x.feed(0, 0, 0, 0, 0), NONE);
        due("refused", x.status(0), 1);
        due("end over", x.end(1601), false);
        due("end below", x.end(-1), false);
        due("refused", x.status(0), 3);
        due("end all", x.end(1600), true);
        due("end some", x.end(1581), true);
        due("end more", x.end(1582), false);
        due("feed over", x.feed(0, 0, 0, 0, 0), NONE);
        due("end some", x.end(1580), true);
        due("feed", x.feed(0, 0, 0, 0, 0), 1600);
        due("end none", x.end(0), true);
        due("refused", x.status(0), 5);
        due("feed", x.feed(0, 0, 0, 0, 0), 20);
        due("realm", x.realm(), NONE);
        due("tape went", x.feed(0, 0, 0, 0, 0), 20);
        due("ask", x.ask(), NOTHING);
        due("tape went", x.feed(0, 0, 0, 0, 0), 20);
        due("others", x.status(-1), NONE);
        due("others", x.status(4), NONE);
        due("others", x.fault(2), NONE);
        due("others", x.fault(-1), NONE);
    }

    private static void realmWholes() {
        LentStairs x = new LentStairs();
        due("empty", Check.realm(x, ""), 0);
        due("blanks", Check.realm(x, " \n "), 0);
        due("fault", x.fault(0), 0);
        due("tight", Check.realm(x, "tower a steps 3;gap 1 of a;"), 2);
        due("loose", Check.realm(x, "\n tower\na  steps\n0003\n;\n bends 1 ; \n"), 2);
        Check.realmFault(";", 1, 0);
        Check.realmFault("bends 1", 1, 7);
        Check.realmFault("bends 1  ", 1, 9);
        Check.realmFault("bends 1;;", 1, 8);
        Check.realmFault("bends 1 bends 2;", 1, 8);
        Check.realmFault("bends\t1;", 1, 5);
        Check.realmFault("tower", 1, 5);
        Check.realmFault("tower ", 1, 6);
        Check.realmFault("tower a", 1, 7);
        Check.realmFault("tower a steps", 1, 13);
        Check.realmFault("tower a steps ;", 1, 14);
        Check.realmFault("\u00e4", 1, 0);
    }

    private static void realmWords() {
        Check.realmFault("tow", 1, 0);
        Check.realmFault("towers a steps 3;", 1, 0);
        Check.realmFault(" steps 3;", 1, 1);
        Check.realmFault("bends1;", 1, 5);
        Check.realmFault("tower A steps 3;", 1, 6);
        Check.realmFault("tower aB steps 3;", 1, 7);
        Check.realmFault("tower a1 steps 3;", 1, 7);
        Check.realmFault("tower a step 3;", 1, 8);
        Check.realmFault("tower a stepss 3;", 1, 8);
        Check.realmFault("tower a steps3;", 1, 13);
        Check.realmFault("tower 3", 1, 6);
        Check.realmFault("tower steps steps 3;", 1, 6);
        Check.realmFault("tower abcdefgh steps 3;", 1, 12);
        Check.realmFault("tower a steps x;", 1, 14);
        Check.realmFault("tower a steps 3;gap 1of a;", 1, 21);
        Check.realmFault("tower a steps 3;gap 1 to a;", 1, 22);
        Check.realmFault("tower a steps 3;wood gap", 1, 21);
        Check.realmFault("tower a steps 3;wood abcdefg", 1, 27);
        for (String own : "tower steps wood costs gap of guard legs rope loan to days rent bends enemy odds"
                .split(" ")) {
            Check.realmFault("tower " + own + " steps 3;", 1, 6);
        }
        due("six letters", Check.realm(new LentStairs(), "tower towers steps 3; tower offoff steps 3;"), 2);
        due("other words", Check.realm(new LentStairs(), "tower first steps 3; guard day of first legs 1 rope 0;"), 2);
    }

    private static void realmNumbers() {
        String a = "tower a steps 4;tower b steps 3;";
        int at = a.length();
        Check.realmFault("tower a steps 2;", 2, 14);
        Check.realmFault("tower a steps 15;", 2, 14);
        Check.realmFault("tower a steps 9999", 2, 14);
        Check.realmFault("tower a steps 00003;", 1, 18);
        Check.realmFault("tower a steps 2x;", 2, 14);
        Check.realmFault("bends 0;", 2, 6);
        Check.realmFault("bends 100;", 2, 6);
        Check.realmFault("enemy 0 odds 1;", 2, 6);
        Check.realmFault("enemy 7 odds 1;", 2, 6);
        Check.realmFault("enemy 1 odds 0;", 2, 13);
        Check.realmFault("enemy 1 odds 100;", 2, 13);
        Check.realmFault("enemy 1 odds 1;enemy 1 odds 2;", 2, 21);
        Check.realmFault("enemy 1 odds 1;enemy 2 odds 1;enemy 3 odds 1;enemy 4 odds 1;enemy 5 odds 1;"
                + "enemy 6 odds 1;enemy 6 odds 1;", 2, 96);
        Check.realmFault(a + "wood a costs 100;", 2, at + 13);
        Check.realmFault(a + "gap 0 of a;", 2, at + 4);
        Check.realmFault(a + "gap 15 of a;", 2, at + 4);
        Check.realmFault(a + "gap 14 of a;", 2, at + 10);
        Check.realmFault(a + "gap 4 of a;", 2, at + 9);
        Check.realmFault(a + "gap 4 of b;", 2, at + 9);
        Check.realmFault(a + "gap 1 of a;gap 1 of a;", 2, at + 20);
        Check.realmFault(a + "loan 1 of a to b days 1 rent 0;gap 1 of a;", 2, at + 40);
        Check.realmFault(a + "gap 1 of a;loan 1 of a to b days 1 rent 0;", 2, at + 21);
        Check.realmFault(a + "loan 1 of a to b days 1 rent 0;loan 1 of a to b days 1 rent 0;", 2, at + 41);
        Check.realmFault(a + "loan 4 of b to a days 1 rent 0;", 2, at + 10);
        Check.realmFault(a + "loan 0 of b to a days 1 rent 0;", 2, at + 5);
        Check.realmFault(a + "loan 1 of b to a days 0 rent 0;", 2, at + 22);
        Check.realmFault(a + "loan 1 of b to a days 100 rent 0;", 2, at + 22);
        Check.realmFault(a + "loan 1 of b to a days 1 rent 100;", 2, at + 29);
        Check.realmFault(a + "guard g of a legs 0 rope 0;", 2, at + 18);
        Check.realmFault(a + "guard g of a legs 7 rope 0;", 2, at + 18);
        Check.realmFault(a + "guard g of a legs 6 rope 7;", 2, at + 25);
        Check.of(a + "loan 3 of b to a days 99 rent 99; loan 4 of a to b days 1 rent 0; wood a costs 0;"
                + "wood b costs 99; guard g of a legs 6 rope 6; guard h of a legs 1 rope 0; bends 1; bends 99;"
                + "enemy 6 odds 99; enemy 1 odds 1; gap 2 of b; tower c steps 14;");
    }

    private static void realmNames() {
        String a = "tower a steps 4;guard g of a legs 1 rope 0;";
        int at = a.length();
        Check.realmFault(a + "tower a", 3, at + 6);
        Check.realmFault(a + "tower g", 3, at + 6);
        Check.realmFault(a + "guard a", 3, at + 6);
        Check.realmFault(a + "guard g", 3, at + 6);
        Check.realmFault(a + "guard h of h legs 1 rope 0;", 3, at + 11);
        Check.realmFault(a + "guard h of g legs 1 rope 0;", 3, at + 11);
        Check.realmFault(a + "wood g costs 1;", 3, at + 5);
        Check.realmFault(a + "wood aa costs 1;", 3, at + 5);
        Check.realmFault(a + "gap 9 of g;", 3, at + 9);
        Check.realmFault(a + "loan 1 of a to a days 1 rent 0;", 3, at + 15);
        Check.realmFault(a + "loan 1 of a to g days 1 rent 0;", 3, at + 15);
        Check.realmFault(a + "loan 1 of x to a days 1 rent 0;", 3, at + 10);
        Check.realmFault("wood a costs 1; tower a steps 3;", 3, 5);
    }

    private static void realmKinds() {
        String four = "tower a steps 14;tower b steps 14;tower c steps 14;tower d steps 14;";
        Check.realmFault(four + " tower a", 5, four.length() + 1);
        Check.realmFault(four + "towers", 1, four.length());
        StringBuilder gaps = new StringBuilder(four);
        StringBuilder loans = new StringBuilder(four);
        for (int i = 0; i < 20; i++) {
            gaps.append("gap ").append(i % 10 + 1).append(" of ").append(i < 10 ? "a;" : "b;");
        }
        for (int i = 0; i < 12; i++) {
            loans.append("loan ").append(i + 1).append(" of a to b days 1 rent 1;");
        }
        due("20 gaps", Check.realm(new LentStairs(), gaps.toString()), 24);
        Check.realmFault(gaps + "gap x", 5, gaps.length());
        due("12 loans", Check.realm(new LentStairs(), loans.toString()), 16);
        Check.realmFault(loans + "loan", 5, loans.length());
        StringBuilder guards = new StringBuilder(four);
        for (int i = 0; i < 8; i++) {
            guards.append("guard g").append((char) ('a' + i)).append(" of a legs 1 rope 1;");
        }
        due("8 guards", Check.realm(new LentStairs(), guards.toString()), 12);
        Check.realmFault(guards + "guard ga", 5, guards.length());
        StringBuilder many = new StringBuilder();
        for (int i = 0; i < 70; i++) {
            many.append("bends ").append(i + 1).append(';');
        }
        due("70", Check.realm(new LentStairs(), many + " \n"), 70);
        Check.realmFault(many + " bends 1;", 5, many.length() + 1);
        Check.realmFault(many + "#", 5, many.length());
        Check.realmFault(many + "\n;", 5, many.length() + 1);
    }

    private static void realmReplaces() {
        LentStairs x = Check.of(TWO);
        x.go(1);
        due("refused realm", Check.realm(x, "tower z steps 3; tower z"), NONE);
        due("all stays", x.has(0), 2);
        due("name stays", x.letter(0, 0, 0), 11);
        due("day stays", x.has(5), 1);
        due("undo stays", x.has(9), 1);
        due("purse stays", x.purse(0), 5);
        due("realm", Check.realm(x, "tower z steps 3;"), 1);
        due("day", x.has(5), 0);
        due("undo", x.has(9), 0);
        due("undo", x.undo(), false);
        due("purse", x.purse(0), 0);
        due("towers", x.has(0), 1);
        due("guards", x.has(1), 0);
        due("loans", x.has(2), 0);
        due("bends", x.has(4), 99);
        due("cost", x.tower(0, 1), 1);
        due("stand", x.tower(0, 2), 3);
        due("enemies", x.odds(0), NONE);
        due("an enemy of 6", Check.realm(x, "enemy 6 odds 1; tower z steps 3;"), 2);
        due("an enemy of 6", x.odds(0), 1000);
        due("he is gone", Check.realm(x, "tower z steps 3;"), 1);
        due("he is gone", x.odds(0), NONE);
        due("empty", Check.realm(x, ""), 0);
        due("towers", x.has(0), 0);
        LentStairs y = Check.of("tower a steps 3; loan 3 of a to b days 1 rent 0;"
                .replace("; loan", "; tower b steps 3; gap 1 of b; loan") + "gap 2 of b; loan 3 of b to a days 1 rent 0;");
        due("begun behind the gaps", y.loan(0, 6), 1);
        due("first loan's step is open", y.loan(1, 6), 3);
    }

    private static void counts() {
        LentStairs x = Check.of(TWO);
        int[] want = {2, 2, 1, 1, 2, 0, 1, 0, 0, 0};
        for (int what = 0; what < want.length; what++) {
            due("has " + what, x.has(what), want[what]);
        }
        due("has", x.has(10), NONE);
        due("has", x.has(-1), NONE);
        due("lend", x.lend(0, 1, 1, 1, 1), 1);
        due("yard", x.has(8), 1);
        due("open", x.has(3), 2);
        due("acts", x.has(9), 1);
        x.go(2);
        int[] after = {2, 2, 2, 0, 2, 2, 0, 1, 0, 2};
        for (int what = 0; what < after.length; what++) {
            due("has later " + what, x.has(what), after[what]);
        }
    }

    private static void facts() {
        LentStairs x = Check.of("tower abcdef steps 14; tower z steps 3; guard gz of z legs 4 rope 5;"
                + "guard hz of z legs 2 rope 0;");
        for (int k = 0; k < 6; k++) {
            due("letter", x.letter(0, 0, k), k + 1);
        }
        due("letter", x.letter(0, 0, 6), NONE);
        due("letter", x.letter(0, 0, -1), NONE);
        due("letter", x.letter(0, 1, 0), 26);
        due("behind", x.letter(0, 1, 1), 0);
        due("behind", x.letter(0, 1, 5), 0);
        due("letter", x.letter(0, 2, 0), NONE);
        due("letter", x.letter(1, 1, 0), 8);
        due("letter", x.letter(1, 2, 0), NONE);
        due("letter", x.letter(1, -1, 0), NONE);
        due("letter", x.letter(2, 0, 0), NONE);
        due("letter", x.letter(-1, 0, 0), NONE);
        int[] tower = {3, 1, 3, 1, 2, 2, NONE};
        for (int what = 0; what < tower.length; what++) {
            due("tower " + what, x.tower(1, what), tower[what]);
        }
        due("no guards", x.tower(0, 5), NONE);
        due("no guards", x.tower(0, 4), 0);
        due("held without guards", x.tower(0, 3), 1);
        due("tower", x.tower(0, -1), NONE);
        due("tower", x.tower(2, 0), NONE);
        due("tower", x.tower(-1, 0), NONE);
        due("purse", x.purse(2), NOTHING);
        due("purse", x.purse(-1), NOTHING);
        due("guard", x.guard(0, 0), 1);
        due("guard", x.guard(0, 1), 4);
        due("guard", x.guard(0, 2), 5);
        due("guard", x.guard(0, 3), NONE);
        due("guard", x.guard(0, -1), NONE);
        due("guard", x.guard(2, 0), NONE);
        due("guard", x.guard(-1, 0), NONE);
        due("step", x.step(0, 14, 0), 0);
        due("step", x.step(0, 15, 0), NONE);
        due("step", x.step(1, 4, 0), NONE);
        due("step", x.step(1, 0, 0), NONE);
        due("step", x.step(2, 1, 0), NONE);
        due("step", x.step(1, 1, -1), NONE);
        due("loan", x.loan(0, 0), NONE);
        due("loan", x.loan(-1, 0), NONE);
    }

    private static void lending() {
        LentStairs x = Check.of(PLAIN + "gap 3 of b; gap 1 of b;");
        due("to itself", x.lend(0, 1, 0, 1, 0), NONE);
        due("no tower", x.lend(3, 1, 0, 1, 0), NONE);
        due("no tower to", x.lend(0, 1, 3, 1, 0), NONE);
        due("no tower", x.lend(-1, 1, 0, 1, 0), NONE);
        due("no tower to", x.lend(0, 1, -1, 1, 0), NONE);
        due("no step", x.lend(0, 0, 1, 1, 0), NONE);
        due("no step", x.lend(0, 6, 1, 1, 0), NONE);
        due("a gap", x.lend(1, 1, 0, 1, 0), NONE);
        due("days", x.lend(0, 1, 1, 0, 0), NONE);
        due("days", x.lend(0, 1, 1, 100, 0), NONE);
        due("rent", x.lend(0, 1, 1, 1, -1), NONE);
        due("rent", x.lend(0, 1, 1, 1, 100), NONE);
        due("refused", x.status(2), 12);
        due("no acts", x.has(9), 0);
        due("lend", x.lend(0, 5, 1, 99, 99), 0);
        due("lowest", x.loan(0, 6), 1);
        due("lend", x.lend(0, 4, 1, 1, 0), 1);
        due("next", x.loan(1, 6), 3);
        due("lend", x.lend(0, 3, 1, 1, 0), 2);
        due("yard", x.loan(2, 6), 0);
        due("yard", x.has(8), 1);
        due("lent", x.step(0, 5, 0), 2);
        due("lent by", x.step(0, 5, 3), 0);
        due("filled by", x.step(1, 3, 2), 1);
        due("a gap yet", x.step(1, 3, 0), 1);
        due("stand", x.step(1, 3, 1), 1);
        due("a filled gap is not there", x.lend(1, 3, 2, 1, 0), NONE);
        due("twice", x.lend(0, 5, 2, 1, 0), NONE);
        due("lend", x.lend(2, 1, 0, 1, 0), 3);
        due("fills a lent one", x.loan(3, 6), 3);
        due("back", x.back(2), true);
        due("there and filled", x.step(0, 3, 0), 0);
        due("there and filled", x.step(0, 3, 2), 3);
        due("lend it again", x.lend(0, 3, 2, 1, 0), 4);
        due("stand yet", x.step(0, 3, 1), 1);
        due("lent by the later", x.step(0, 3, 3), 4);
        int[] row = {2, 1, 0, 1, 0, 0, 3, 0, NONE};
        for (int what = 0; what < row.length; what++) {
            due("loan " + what, x.loan(3, what), row[what]);
        }
        due("loan", x.loan(3, -1), NONE);
        for (int i = 5; i < 24; i++) {
            due("lend", x.lend(1, 2, 2, 1, 0), i);
            due("back", x.back(i), true);
        }
        due("24", x.lend(1, 2, 2, 1, 0), NONE);
        due("count", x.has(2), 24);
        due("undo", x.undo(), true);
        due("undo", x.undo(), true);
        due("23", x.has(2), 23);
        due("again", x.lend(1, 4, 2, 7, 0), 23);
        due("again", x.loan(23, 1), 4);
    }

    private static void givingBack() {
        LentStairs x = Check.of(PLAIN + "gap 2 of b; bends 3;");
        due("back", x.back(0), false);
        due("back", x.back(-1), false);
        due("lend", x.lend(0, 1, 1, 9, 2), 0);
        due("lend", x.lend(0, 2, 1, 9, 1), 1);
        x.go(2);
        due("back", x.back(0), true);
        due("there", x.step(0, 1, 0), 0);
        due("no more filled", x.step(1, 2, 1), 0);
        due("no more filled", x.step(1, 2, 2), NONE);
        due("yard stays", x.loan(1, 6), 0);
        int[] row = {0, 1, 1, 7, 2, 2, 0, 1};
        for (int what = 0; what < row.length; what++) {
            due("ended " + what, x.loan(0, what), row[what]);
        }
        due("twice", x.back(0), false);
        due("refused", x.status(2), 3);
        x.go(1);
        due("paid", x.purse(0), 7);
        due("back", x.back(1), true);
        due("bent", x.step(0, 2, 0), 3);
        due("bent", x.step(0, 2, 1), 0);
        due("bent", x.lend(0, 2, 1, 1, 0), NONE);
        due("lend", x.lend(0, 3, 1, 3, 0), 2);
        due("fills", x.loan(2, 6), 2);
        due("go", x.go(3), 1);
        due("bent at its end", x.step(0, 3, 0), 3);
    }

    private static void refitting() {
        LentStairs x = Check.of(PLAIN + "bends 1; wood a costs 9; wood a costs 8; loan 5 of a to b days 1 rent 0;");
        due("lent", x.refit(0, 5), false);
        due("there", x.refit(0, 1), false);
        due("no step", x.refit(0, 6), false);
        due("no step", x.refit(0, 0), false);
        due("no tower", x.refit(3, 1), false);
        due("no tower", x.refit(-1, 1), false);
        due("refused", x.status(2), 6);
        due("go", x.go(1), 1);
        due("bent", x.has(7), 1);
        due("refit", x.refit(0, 5), true);
        due("there", x.step(0, 5, 0), 0);
        due("paid", x.purse(0), -8);
        due("twice", x.refit(0, 5), false);
        due("lend", x.lend(0, 5, 1, 1, 0), 1);
        x.go(1);
        due("bent and filled", x.lend(1, 1, 0, 5, 0), 2);
        due("bent and filled", x.step(0, 5, 2), 2);
        due("bent and filled", x.step(0, 5, 1), 1);
        due("refit a filled one", x.refit(0, 5), true);
        due("both", x.step(0, 5, 0), 0);
        due("both", x.step(0, 5, 2), 2);
    }

    private static void days() {
        LentStairs x = Check.of(PLAIN + "loan 1 of a to b days 2 rent 3; loan 2 of b to c days 1 rent 4;"
                + "loan 3 of a to b days 99 rent 99;");
        due("go", x.go(0), NONE);
        due("go", x.go(-1), NONE);
        due("go", x.go(101), NONE);
        due("go", x.go(Integer.MAX_VALUE), NONE);
        due("refused", x.status(2), 4);
        due("go", x.go(1), 1);
        due("purse", x.purse(0), 102);
        due("purse", x.purse(1), -98);
        due("purse", x.purse(2), -4);
        due("left", x.loan(0, 3), 1);
        due("away", x.loan(0, 5), 1);
        due("ended", x.loan(1, 7), 1);
        due("go", x.go(100), 2);
        due("purse", x.purse(0), 99 * 99 + 6);
        due("day", x.has(5), 101);
        due("bent by 99 days", x.step(0, 3, 0), 3);
        for (int i = 0; i < 8; i++) {
            x.go(100);
        }
        due("day", x.has(5), 901);
        due("beyond", x.go(99), NONE);
        due("last", x.go(98), 0);
        due("day", x.has(5), 999);
        due("beyond", x.go(1), NONE);
        due("rents", x.rents(0, 0), 0);
        due("rents beyond", x.rents(0, 1), NOTHING);
        due("lost", x.lost(0), NONE);
        Check.asks(x, "often all", 1);
        Check.asks(x, "total day", 999);
        due("undo", x.undo(), true);
        Check.asks(x, "often all", 99);
        Check.asks(x, "last all", 999);
        due("rents", x.rents(0, 98), 0);
        due("rents beyond", x.rents(0, 99), NOTHING);
    }

    private static void undoing() {
        LentStairs x = Check.of(TWO);
        due("undo", x.undo(), false);
        due("refused", x.status(3), 1);
        x.lend(0, 9, 1, 1, 1);
        due("a refused act is none", x.has(9), 0);
        for (int i = 1; i <= 25; i++) {
            due("go", x.go(i == 2 ? 2 : 1) >= 0, true);
            due("kept", x.has(9), Math.min(i, 20));
        }
        due("day", x.has(5), 26);
        for (int i = 0; i < 20; i++) {
            due("undo", x.undo(), true);
        }
        due("undo", x.undo(), false);
        due("day", x.has(5), 6);
        due("acts", x.has(9), 0);
        due("go", x.go(1), 0);
        due("acts", x.has(9), 1);
        LentStairs y = Check.of(TWO);
        y.lend(0, 4, 1, 3, 2);
        y.back(0);
        due("fills", y.step(1, 1, 2), NONE);
        due("undo", y.undo(), true);
        due("fills", y.step(1, 1, 2), 0);
        due("lent", y.step(0, 3, 0), 2);
        due("open", y.has(3), 2);
        due("undo", y.undo(), true);
        due("loans", y.has(2), 1);
        due("there", y.step(0, 4, 0), 0);
        due("loan", y.loan(1, 0), NONE);
    }

    private static void reaching() {
        LentStairs x = Check.of("tower a steps 10; gap 2 of a; gap 3 of a; gap 6 of a; gap 7 of a; gap 8 of a;"
                + "guard g of a legs 3 rope 1; guard h of a legs 4 rope 0; guard i of a legs 1 rope 6;"
                + "guard j of a legs 2 rope 2; guard k of a legs 1 rope 2;");
        int[][] want = {{5, 1, 10, 5}, {10, 5, 10, 5}, {1, 1, 5, 5}, {1, 1, 5, 5}, {1, 1, 5, 5}};
        for (int g = 0; g < want.length; g++) {
            for (int how = 0; how < 4; how++) {
                due("reaches " + g + " " + how, x.reaches(g, how), want[g][how]);
            }
        }
        due("reaches", x.reaches(0, 4), NONE);
        due("reaches", x.reaches(0, -1), NONE);
        due("reaches", x.reaches(5, 0), NONE);
        due("reaches", x.reaches(-1, 0), NONE);
        due("hops", x.hops(0), NONE);
        due("hops", x.hops(1), 4);
        due("hops", x.hops(5), NONE);
        due("hops", x.hops(-1), NONE);
        LentStairs y = Check.of("tower a steps 14; tower b steps 3; guard g of a legs 6 rope 0; gap 6 of a;"
                + "loan 14 of a to b days 1 rent 0;");
        due("top lent", y.hops(0), NONE);
        due("top lent", y.reaches(0, 0), 13);
        y.go(1);
        due("hops", y.hops(0), 3);
        LentStairs z = Check.of("tower a steps 3; tower b steps 3; guard g of a legs 1 rope 2; gap 1 of a; gap 2 of a;"
                + "guard h of b legs 1 rope 0;");
        due("ground", z.reaches(0, 0), 0);
        due("dark at least 1", z.reaches(1, 1), 3);
        due("rope", z.reaches(0, 3), 3);
    }

    private static void sparing() {
        LentStairs x = Check.of("tower a steps 7; tower b steps 5; tower c steps 4; guard g of a legs 3 rope 0;"
                + "guard h of a legs 5 rope 0; guard i of c legs 2 rope 6; gap 1 of c; gap 2 of c; gap 3 of c;"
                + "gap 1 of b;");
        due("spare", x.spare(0, NONE), 4);
        int[] spare = {1, 2, 4, 5, NONE};
        for (int k = 0; k < spare.length; k++) {
            due("spare " + k, x.spare(0, k), spare[k]);
        }
        due("spare", x.spare(0, -2), NONE);
        due("without guards", x.spare(1, NONE), 3);
        due("without guards", x.spare(1, 0), 2);
        due("not held", x.spare(2, NONE), 0);
        due("not held", x.spare(2, 0), NONE);
        due("need", x.need(2, NONE), 1);
        due("need", x.need(2, 0), 2);
        due("need", x.need(2, 1), NONE);
        due("need", x.need(2, -2), NONE);
        due("held", x.need(0, NONE), 0);
        due("held", x.need(0, 0), NONE);
        due("no tower", x.spare(3, NONE), NONE);
        due("no tower", x.spare(-1, 0), NONE);
        due("no tower", x.need(3, NONE), NONE);
        due("no tower", x.need(-1, 0), NONE);
        due("lend the top", x.lend(1, 5, 0, 1, 0), 0);
        due("top missing, no guards", x.need(1, NONE), 0);
        due("lend the top", x.lend(0, 7, 1, 1, 0), 1);
        due("need the top", x.need(0, 0), 7);
        LentStairs high = Check.of("tower a steps 14; tower b steps 3; guard g of a legs 6 rope 0;"
                + "loan 14 of a to b days 1 rent 0;");
        due("need the 14th", high.need(0, 0), 14);
        LentStairs y = Check.of("tower a steps 3; tower b steps 3; guard g of a legs 1 rope 0;"
                + "loan 1 of a to b days 9 rent 0; loan 2 of b to a days 9 rent 0;");
        due("filled", y.step(0, 1, 2), 1);
        y.back(0);
        due("a filled one can be lent", y.spare(0, NONE), 1);
        due("a filled one can be lent", y.spare(0, 0), 1);
    }

    private static void rescuing() {
        LentStairs x = Check.of("tower a steps 6; tower b steps 6; tower c steps 4; tower d steps 3;"
                + "guard g of a legs 2 rope 0; gap 1 of a; gap 2 of a; gap 3 of a; gap 4 of a; gap 5 of a;"
                + "guard h of b legs 5 rope 0; gap 1 of b; gap 3 of b; gap 4 of b; guard i of c legs 1 rope 0; gap 3 of c;");
        due("rescue", x.rescue(NONE, 0), 3);
        int[][] want = {{1, 2, 0, 2}, {3, 1, 0, 4}, {3, 2, 2, 3}};
        due("spare of b", x.spare(1, NONE), 1);
        due("need of a", x.need(0, NONE), 2);
        for (int k = 0; k < 3; k++) {
            for (int what = 0; what < 4; what++) {
                due("rescue " + k + " " + what, x.rescue(k, what), want[k][what]);
            }
        }
        due("rescue", x.rescue(3, 0), NONE);
        due("rescue", x.rescue(-2, 0), NONE);
        due("rescue", x.rescue(0, 4), NONE);
        due("rescue", x.rescue(0, -1), NONE);
        due("lend", x.lend(3, 1, 0, 1, 0), 0);
        due("fills the lowest", x.loan(0, 6), 1);
        due("fewer spares", x.rescue(NONE, 0), NONE);
        due("fewer spares", x.rescue(0, 0), NONE);
    }

    private static void enemies() {
        LentStairs x = Check.of("tower a steps 7; tower b steps 3; gap 2 of a; gap 3 of a; gap 6 of a;"
                + "enemy 2 odds 1; enemy 3 odds 1; enemy 6 odds 1;");
        due("falls", x.falls(0, 1), 1);
        due("falls", x.falls(0, 2), 1);
        due("falls", x.falls(0, 3), NONE);
        due("legs", x.falls(0, 0), NONE);
        due("legs", x.falls(0, 7), NONE);
        due("tower", x.falls(2, 1), NONE);
        due("tower", x.falls(-1, 1), NONE);
        due("floor", x.odds(0), 666);
        due("all", x.odds(1), 1000);
        due("tower", x.odds(2), NONE);
        due("tower", x.odds(-1), NONE);
        x.lend(0, 1, 1, 1, 0);
        x.lend(0, 4, 1, 1, 0);
        due("ground", x.falls(0, 4), 0);
        due("some", x.odds(0), 333);
        x.lend(0, 7, 1, 1, 0);
        due("none", x.odds(0), 0);
        due("falls", x.falls(0, 6), 5);
        due("no enemy", Check.of(PLAIN).odds(0), NONE);
    }

    private static void blaming() {
        LentStairs x = Check.of("tower a steps 6; tower b steps 3; guard g of a legs 2 rope 0; guard h of b legs 1 rope 0;"
                + "gap 1 of b; loan 5 of a to b days 9 rent 0; loan 4 of a to b days 9 rent 0; loan 3 of a to b days 9 rent 0;"
                + "loan 2 of a to b days 9 rent 0; loan 1 of a to b days 9 rent 0; bends 1;");
        due("fewest", x.blame(0, 0), 2);
        due("bits", x.blame(0, 1), 2 + 8);
        due("sets", x.blame(0, 2), 1);
        due("not held back", x.blame(1, 0), NONE);
        due("others", x.blame(0, 3), NONE);
        due("others", x.blame(0, -1), NONE);
        due("no guard", x.blame(2, 0), NONE);
        due("no guard", x.blame(-1, 0), NONE);
        x.go(1);
        x.back(4);
        due("bent now", x.step(0, 1, 0), 3);
        due("not bent, were it given back", x.blame(0, 0), 2);
        x.back(1);
        due("one is bent", x.blame(0, 0), 3);
        due("one is bent", x.blame(0, 1), 1 + 4 + 8);
        x.back(0);
        due("no loans would do", x.blame(0, 1), NONE);
        LentStairs y = Check.of("tower a steps 6; tower b steps 3; guard g of a legs 3 rope 6;"
                + "loan 4 of a to b days 9 rent 0; loan 3 of a to b days 9 rent 0; loan 2 of a to b days 9 rent 0;"
                + "loan 5 of a to b days 9 rent 0; loan 6 of a to b days 9 rent 0;");
        due("reaches", y.reaches(0, 0), 1);
        due("fewest", y.blame(0, 0), 2);
        due("bits", y.blame(0, 1), 16 + 1);
        due("sets", y.blame(0, 2), 2);
    }

    private static void nets() {
        LentStairs x = Check.of("tower a steps 9; tower b steps 9; tower c steps 9; tower d steps 9;"
                + "loan 1 of a to b days 9 rent 0; loan 1 of b to c days 9 rent 0; loan 1 of c to d days 9 rent 0;");
        due("netted", x.netted(), 1);
        due("ring", x.ring(), 0);
        due("lend", x.lend(3, 1, 0, 2, 0), 3);
        due("netted", x.netted(), 0);
        due("ring", x.ring(), 4);
        due("lend", x.lend(2, 2, 0, 1, 0), 4);
        due("ring", x.ring(), 3);
        due("netted", x.netted(), 1);
        due("lend", x.lend(1, 2, 0, 1, 0), 5);
        due("ring", x.ring(), 2);
        due("netted", x.netted(), 2);
        x.go(1);
        due("ended ones are not counted", x.ring(), 4);
        due("ended ones are not counted", x.netted(), 0);
        x.go(1);
        due("ring", x.ring(), 0);
        due("netted", x.netted(), 1);
    }

    private static void wood() {
        LentStairs x = Check.of("tower a steps 6; tower b steps 3; wood a costs 5; guard g of a legs 2 rope 0;"
                + "guard h of a legs 3 rope 0; guard i of b legs 1 rope 0; gap 2 of a; bends 1;"
                + "loan 1 of a to b days 1 rent 0; loan 3 of a to b days 1 rent 0; loan 5 of a to b days 1 rent 0;"
                + "loan 4 of a to b days 2 rent 0;");
        due("none bent", x.wood(0), NONE);
        due("reaches", x.wood(2), 0);
        x.go(1);
        due("wood", x.wood(0), 15);
        due("wood", x.wood(1), 5);
        due("no guard", x.wood(3), NONE);
        due("no guard", x.wood(-1), NONE);
        x.refit(0, 1);
        due("wood", x.wood(0), 10);
        x.back(3);
        due("wood", x.wood(0), 10);
        due("free wood", Check.of("tower a steps 3; wood a costs 0; guard g of a legs 1 rope 0; gap 1 of a;").wood(0), NONE);
    }

    private static void toCome() {
        LentStairs x = Check.of(TWO + "tower z steps 3;");
        due("rents", x.rents(0, 0), 0);
        due("rents", x.rents(0, 1), 5);
        due("rents", x.rents(0, 100), 10);
        due("rents", x.rents(1, 100), -10);
        due("rents", x.rents(2, 100), 0);
        due("rents", x.rents(3, 1), NOTHING);
        due("rents", x.rents(-1, 1), NOTHING);
        due("rents", x.rents(0, -1), NOTHING);
        due("rents", x.rents(0, 101), NOTHING);
        due("lost", x.lost(0), 0);
        due("lost", x.lost(1), 2);
        due("never", x.lost(2), NONE);
        due("lost", x.lost(3), NONE);
        due("lost", x.lost(-1), NONE);
        due("nothing moved", x.has(5), 0);
        due("nothing moved", x.loan(0, 3), 2);
        x.go(1);
        due("lost", x.lost(0), 1);
        due("lost", x.lost(1), 2);
        due("rents", x.rents(0, 2), 5);
        x.back(0);
        due("rents", x.rents(0, 2), 0);
        due("lost", x.lost(0), NONE);
        LentStairs late = Check.of("tower a steps 3; tower b steps 3; guard g of b legs 1 rope 0; gap 1 of b;");
        for (int i = 0; i < 9; i++) {
            late.go(100);
        }
        late.go(98);
        due("lend on day 998", late.lend(0, 1, 1, 1, 0), 0);
        due("lost on the last day", late.lost(1), 999);
        due("undo", late.undo(), true);
        due("lend on day 998", late.lend(0, 1, 1, 2, 0), 0);
        due("not within 999 days", late.lost(1), NONE);
    }

    private static void questions() {
        LentStairs x = Check.of(TWO);
        Check.asks(x, "first held=0", 2);
        Check.asks(x, "last held=1", 1);
        Check.asks(x, "often day>1 and day<5", 3);
        Check.asks(x, "often day<2 or day>98 and day=99", 3);
        Check.asks(x, "often [day<2 or day>98] and day=99", 1);
        Check.asks(x, "often not day<2", 99);
        Check.asks(x, "often not not all and not day<2 or all", 101);
        Check.asks(x, "first not all", NONE);
        Check.asks(x, "last not all", NONE);
        Check.asks(x, "often not all", 0);
        Check.asks(x, "most 2+3*4-1", 13);
        Check.asks(x, "most 20-3-4", 13);
        Check.asks(x, "most 20/3/2*2", 6);
        Check.asks(x, "most (2+3)*4", 20);
        Check.asks(x, "most (0-7)/2", -4);
        Check.asks(x, "most 7/(0-2)", -4);
        Check.asks(x, "most (0-7)/(0-2)", 3);
        Check.asks(x, "most 7/0", 0);
        Check.asks(x, "most 9999*9999", 1000000);
        Check.asks(x, "least 0-9999*9999", -1000000);
        Check.asks(x, "least (0-9999*9999)*9999*9999-9999", -1000000);
        Check.asks(x, "most 9999*9999+9999-9999", 990001);
        Check.asks(x, "total 9999*9999", 101000000);
        Check.asks(x, "total day", 5050);
        Check.asks(x, "least day", 0);
        Check.asks(x, "most min(day,50)", 50);
        Check.asks(x, "least max ( day , 50 )", 50);
        Check.asks(x, "most purse 0", 10);
        Check.asks(x, "least purse 1*2", -20);
        Check.asks(x, "most purse(0-1)", 0);
        Check.asks(x, "most purse 2", 0);
        Check.asks(x, "most stands 2+reach 2", 0);
        Check.asks(x, "most stands 1", 4);
        Check.asks(x, "first stands 1=3", 2);
        Check.asks(x, "last reach 1=4", 1);
        Check.asks(x, "most reach reach 0", 4);
        Check.asks(x, "total lent*100+bent", 299);
        Check.asks(x, "total yard", 0);
        Check.asks(x, "\nfirst\nday>0005 ", 6);
        due("nothing moved", x.has(5), 0);
        due("nothing moved", x.purse(0), 0);
        x.lend(0, 1, 1, 4, 0);
        Check.asks(x, "total yard", 4);
        x.go(2);
        Check.asks(x, "first all", 2);
        Check.asks(x, "last all", 102);
        Check.asks(x, "often all", 101);
        due("ask is never refused", x.status(1), 0);
    }

    private static void questionFaults() {
        LentStairs x = Check.of(TWO);
        Check.askFault(x, "", 1, 0);
        Check.askFault(x, "  ", 1, 2);
        Check.askFault(x, "fist all", 1, 0);
        Check.askFault(x, "firstall", 1, 0);
        Check.askFault(x, "first", 1, 5);
        Check.askFault(x, "first ", 1, 6);
        Check.askFault(x, "first al", 1, 6);
        Check.askFault(x, "first 1<2 xor all", 1, 10);
        Check.askFault(x, "first all;", 1, 9);
        Check.askFault(x, "first day", 1, 9);
        Check.askFault(x, "first day<", 1, 10);
        Check.askFault(x, "first 1<5or all", 1, 9);
        Check.askFault(x, "total not 1", 1, 6);
        Check.askFault(x, "total all", 1, 6);
        Check.askFault(x, "total [1]", 1, 6);
        Check.askFault(x, "total 1<2", 1, 7);
        Check.askFault(x, "total purse0", 1, 11);
        Check.askFault(x, "total 5day", 1, 7);
        Check.askFault(x, "total 1 23456", 1, 8);
        Check.askFault(x, "total 1+23456", 1, 12);
        Check.askFault(x, "total -1", 1, 6);
        Check.askFault(x, "total (1", 1, 8);
        Check.askFault(x, "total (1]", 1, 8);
        Check.askFault(x, "total min(1,2,3)", 1, 13);
        Check.askFault(x, "total max(1)", 1, 11);
        Check.askFault(x, "first (all)", 1, 7);
        Check.askFault(x, "first [1]", 1, 8);
        Check.askFault(x, "first [all)", 1, 10);
        Check.askFault(x, "total lend", 1, 6);
        Check.asks(x, "total ((((((1))))))", 101);
        Check.askFault(x, "total (((((((1", 4, 12);
        Check.asks(x, "total ((((((1))))))+((((((1))))))", 202);
        Check.asks(x, "often not [not [not [all]]] and not [not [not [all]]]", 0);
        Check.askFault(x, "often not [not [not [not all", 4, 21);
        Check.asks(x, "total purse purse purse purse purse purse 9", 995);
        Check.askFault(x, "total reach stands purse reach stands purse reach 0", 4, 44);
        Check.asks(x, "total purse 9+purse 9+purse 9+purse 9+purse 9+purse 9+purse 9", 0);
        Check.asks(x, "often not all or not all or not all or not all or not all or not all or not all", 0);
        Check.asks(x, "total min(min(min(min(min(min(1,2),2),2),2),2),2)", 101);
        Check.askFault(x, "total min(min(min(min(min(min(min(", 4, 33);
        Check.askFault(x, "total ((((((min 1", 1, 16);
        Check.askFault(x, "total ((((((min(1", 4, 15);
        Check.askFault(x, "first ((((((not", 1, 12);
        Check.asks(x, "first not not not not not not all", 0);
        due("not counted", x.status(1), 0);
    }

    private static void images() {
        LentStairs x = new LentStairs();
        due("ahead of any", x.octet(0), NONE);
        due("new", x.image(), 4);
        Check.realm(x, "tower a steps 3; tower b steps 4; gap 1 of b; bends 1; loan 2 of a to b days 1 rent 3;"
                + "loan 3 of a to b days 9 rent 99;");
        due("the latest image stays", x.octet(3), 192);
        x.go(1);
        int[] want = {0, 1, 0, 0, 0, 102, 0, 3, 2, 255, 255, 255, 154, 1, 0, 0, 0, 2,
            0, 2, 1, 0, 3, 1, 0, 1, 0, 3, 1, 8, 99, 1, 0, 0};
        int c = 127;
        due("size", x.image(), want.length + 1);
        for (int k = 0; k < want.length; k++) {
            due("octet " + k, x.octet(k), want[k]);
            c = (3 * c + want[k]) % 249;
        }
        due("check", x.octet(want.length), c);
        due("behind", x.octet(want.length + 1), NONE);
        due("below", x.octet(-1), NONE);
        for (int i = 0; i < 3; i++) {
            x.go(100);
        }
        x.image();
        due("day", x.octet(0) * 256 + x.octet(1), 301);
        LentStairs y = Check.of("tower a steps 14; tower b steps 14; tower c steps 14; tower d steps 14;");
        for (int i = 0; i < 24; i++) {
            due("lend", y.lend(i % 2, 1 + i / 2, 3, 1 + i, i), i);
        }
        due("the longest image", y.image(), 2 + 4 * 18 + 1 + 24 * 8 + 1);
        due("its last loan", y.octet(266), 0);
        due("its check", y.octet(267) >= 0, true);
        due("behind", y.octet(268), NONE);
    }
}
