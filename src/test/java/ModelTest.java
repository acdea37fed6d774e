import java.util.ArrayDeque;
import java.util.ArrayList;
import java.util.Arrays;
import java.util.Deque;
import java.util.List;
import java.util.Random;

/** Random runs of calls beside a model that is slow and tries everything. */
public final class ModelTest {
    private static final int NONE = LentStairs.NONE;

    /** A LOAN as loan() tells it: of, step, to, left, rent, away, fills, ended. */
    private static final class Model {
        int day;
        int bends = 99;
        int[] height;
        int[] cost;
        int[] purse;
        int[][] how;
        int[][] guards;
        int[] odds = new int[7];
        List<int[]> loans = new ArrayList<>();

        Model copy() {
            Model m = new Model();
            m.day = day;
            m.bends = bends;
            m.height = height;
            m.cost = cost;
            m.purse = purse.clone();
            m.how = new int[how.length][];
            for (int t = 0; t < how.length; t++) {
                m.how[t] = how[t].clone();
            }
            m.guards = guards;
            m.odds = odds;
            for (int[] loan : loans) {
                m.loans.add(loan.clone());
            }
            return m;
        }

        boolean[] stand(int t) {
            boolean[] stand = new boolean[height[t] + 1];
            for (int s = 1; s <= height[t]; s++) {
                stand[s] = how[t][s] == 0;
            }
            for (int[] loan : loans) {
                if (loan[7] == 0 && loan[2] == t && loan[6] != 0) {
                    stand[loan[6]] = true;
                }
            }
            return stand;
        }

        void begin(int of, int step, int to, int days, int rent) {
            how[of][step] = 2;
            boolean[] stand = stand(to);
            int fills = 0;
            for (int s = height[to]; s >= 1; s--) {
                fills = stand[s] ? fills : s;
            }
            loans.add(new int[] {of, step, to, days, rent, 0, fills, 0});
        }

        void finish(int[] loan) {
            how[loan[0]][loan[1]] = loan[5] < bends ? 0 : 3;
            loan[6] = 0;
            loan[7] = 1;
        }

        int pass() {
            int ended = 0;
            day++;
            for (int[] loan : loans) {
                if (loan[7] == 0) {
                    purse[loan[0]] += loan[4];
                    purse[loan[2]] -= loan[4];
                    loan[5]++;
                    if (--loan[3] == 0) {
                        finish(loan);
                        ended++;
                    }
                }
            }
            return ended;
        }

        boolean held(int t, boolean[] stand) {
            for (int[] guard : guards) {
                if (guard[0] == t && reach(stand, guard[1], 0) != height[t]) {
                    return false;
                }
            }
            return true;
        }

        int heldCount() {
            int count = 0;
            for (int t = 0; t < height.length; t++) {
                count += held(t, stand(t)) ? 1 : 0;
            }
            return count;
        }

        int openCount() {
            return (int) loans.stream().filter(loan -> loan[7] == 0).count();
        }

        int yardCount() {
            return (int) loans.stream().filter(loan -> loan[7] == 0 && loan[6] == 0).count();
        }

        int bentCount() {
            return (int) Arrays.stream(how).flatMapToInt(Arrays::stream).filter(h -> h == 3).count();
        }
    }

    private final Random random;
    private final LentStairs x = new LentStairs();
    private final Deque<Model> past = new ArrayDeque<>();
    private Model m = new Model();

    private ModelTest(long seed) {
        random = new Random(seed);
    }

    public static void main(String[] args) {
        for (long seed = 0; seed < 400; seed++) {
            new ModelTest(seed).run();
        }
        Check.finish();
    }

    private void run() {
        tell();
        for (int i = 0; i < 30; i++) {
            act();
            if (i % 3 == 0) {
                compare();
            }
            question();
        }
    }

    private int upTo(int most) {
        return random.nextInt(most + 1);
    }

    private static String name(int kind, int i) {
        return (kind == 0 ? "t" : "g") + (char) ('a' + i);
    }

    private void tell() {
        int towers = 1 + upTo(3);
        int steps = random.nextInt(4) == 0 ? 14 : 7;
        m.height = new int[towers];
        m.cost = new int[towers];
        m.purse = new int[towers];
        m.how = new int[towers][];
        StringBuilder text = new StringBuilder();
        for (int t = 0; t < towers; t++) {
            m.height[t] = 3 + upTo(steps - 3);
            m.cost[t] = 1;
            m.how[t] = new int[m.height[t] + 1];
            text.append("tower ").append(name(0, t)).append(" steps ").append(m.height[t]).append(';');
        }
        List<int[]> guards = new ArrayList<>();
        List<int[]> told = new ArrayList<>();
        int gaps = 0;
        boolean[][] taken = new boolean[towers][15];
        for (int i = upTo(35); i > 0; i--) {
            int t = upTo(towers - 1);
            int s = 1 + upTo(m.height[t] - 1);
            switch (upTo(5)) {
                case 0 -> {
                    m.cost[t] = upTo(99);
                    text.append("wood ").append(name(0, t)).append(" costs ").append(m.cost[t]).append(" ;");
                }
                case 1 -> {
                    if (gaps < 20 && s < m.height[t] && !taken[t][s]) {
                        gaps++;
                        taken[t][s] = true;
                        m.how[t][s] = 1;
                        text.append("gap ").append(s).append(" of ").append(name(0, t)).append(";\n");
                    }
                }
                case 2 -> {
                    if (guards.size() < 8) {
                        int[] guard = {t, 1 + upTo(5), upTo(6)};
                        text.append("guard ").append(name(1, guards.size())).append(" of ").append(name(0, t))
                            .append(" legs ").append(guard[1]).append(" rope ").append(guard[2]).append(";");
                        guards.add(guard);
                    }
                }
                case 3 -> {
                    int to = upTo(towers - 1);
                    if (told.size() < 12 && to != t && !taken[t][s]) {
                        taken[t][s] = true;
                        int[] loan = {t, s, to, 1 + upTo(random.nextBoolean() ? 98 : 6), upTo(99)};
                        told.add(loan);
                        text.append("loan ").append(s).append(" of ").append(name(0, t)).append(" to ")
                            .append(name(0, to)).append(" days ").append(loan[3]).append(" rent ")
                            .append(loan[4]).append(";");
                    }
                }
                case 4 -> {
                    m.bends = 1 + upTo(random.nextBoolean() ? 98 : 5);
                    text.append("bends ").append(m.bends).append(";");
                }
                default -> {
                    int legs = 1 + upTo(5);
                    if (m.odds[legs] == 0) {
                        m.odds[legs] = 1 + upTo(98);
                        text.append("enemy ").append(legs).append(" odds ").append(m.odds[legs]).append(";");
                    }
                }
            }
        }
        m.guards = guards.toArray(new int[0][]);
        for (int[] loan : told) {
            m.begin(loan[0], loan[1], loan[2], loan[3], loan[4]);
        }
        long statements = text.chars().filter(c -> c == ';').count();
        Check.due("realm " + text, Check.realm(x, text.toString()), statements);
    }

    private void keep(Model before) {
        past.push(before);
        if (past.size() > 20) {
            past.removeLast();
        }
    }

    private void act() {
        Model before = m.copy();
        int t = upTo(m.height.length) - random.nextInt(2);
        int s = upTo(15);
        switch (upTo(9)) {
            case 0, 1, 2, 3 -> {
                int to = upTo(m.height.length);
                int days = upTo(random.nextBoolean() ? 100 : 5);
                int rent = upTo(101) - 1;
                boolean can = t >= 0 && t < m.height.length && to < m.height.length && t != to
                        && s >= 1 && s <= m.height[t] && m.how[t][s] == 0
                        && days >= 1 && days <= 99 && rent >= 0 && rent <= 99 && m.loans.size() < 24;
                if (can) {
                    m.begin(t, s, to, days, rent);
                    keep(before);
                }
                Check.due("lend", x.lend(t, s, to, days, rent), can ? m.loans.size() - 1 : NONE);
            }
            case 4 -> {
                int loan = upTo(m.loans.size());
                boolean can = loan < m.loans.size() && m.loans.get(loan)[7] == 0;
                if (can) {
                    m.finish(m.loans.get(loan));
                    keep(before);
                }
                Check.due("back", x.back(loan), can);
            }
            case 5, 6 -> {
                boolean can = t >= 0 && t < m.height.length && s >= 1 && s <= m.height[t] && m.how[t][s] == 3;
                if (can) {
                    m.how[t][s] = 0;
                    m.purse[t] -= m.cost[t];
                    keep(before);
                }
                Check.due("refit", x.refit(t, s), can);
            }
            case 7, 8 -> {
                int n = random.nextInt(5) == 0 ? upTo(101) : upTo(4);
                boolean can = n >= 1 && n <= 100 && m.day + n <= 999;
                int ended = 0;
                for (int i = 0; can && i < n; i++) {
                    ended += m.pass();
                }
                if (can) {
                    keep(before);
                }
                Check.due("go", x.go(n), can ? ended : NONE);
            }
            default -> {
                boolean can = !past.isEmpty();
                if (can) {
                    m = past.pop();
                }
                Check.due("undo", x.undo(), can);
            }
        }
    }

    /** By positions, each with and without the rope used. */
    private static int reach(boolean[] stand, int legs, int rope) {
        int top = stand.length - 1;
        boolean[][] at = new boolean[top + 1][2];
        at[0][0] = true;
        int best = 0;
        for (int s = 0; s <= top; s++) {
            for (int used = 0; used < 2; used++) {
                if (!at[s][used]) {
                    continue;
                }
                best = Math.max(best, s);
                for (int next = s + 1; next <= top; next++) {
                    if (stand[next] && next - s <= legs) {
                        at[next][used] = true;
                    }
                    if (stand[next] && used == 0 && next - s <= legs + rope) {
                        at[next][1] = true;
                    }
                }
            }
        }
        return best;
    }

    private static int hops(boolean[] stand, int legs) {
        int top = stand.length - 1;
        int[] least = new int[top + 1];
        Arrays.fill(least, 99);
        least[0] = 0;
        for (int s = 1; s <= top; s++) {
            for (int from = Math.max(0, s - legs); from < s && stand[s]; from++) {
                least[s] = Math.min(least[s], least[from] + 1);
            }
        }
        return least[top] >= 99 ? NONE : least[top];
    }

    private int spare(int t) {
        boolean[] stand = m.stand(t);
        if (!m.held(t, stand)) {
            return 0;
        }
        int best = 0;
        for (int bits = 0; bits < 1 << (m.height[t] - 1); bits++) {
            if (Integer.bitCount(bits) <= Integer.bitCount(best) || !allHow(t, bits, 0)) {
                continue;
            }
            Model lent = m.copy();
            for (int s = 1; s < m.height[t]; s++) {
                if ((bits >> (s - 1) & 1) == 1) {
                    lent.how[t][s] = 2;
                }
            }
            best = lent.held(t, lent.stand(t)) ? bits : best;
        }
        return best;
    }

    private boolean allHow(int t, int bits, int how) {
        for (int s = 1; s <= m.height[t]; s++) {
            if ((bits >> (s - 1) & 1) == 1 && m.how[t][s] != how) {
                return false;
            }
        }
        return true;
    }

    private int need(int t) {
        int best = -1;
        boolean[] stand = m.stand(t);
        for (int bits = 0; bits < 1 << m.height[t]; bits++) {
            if (best != -1 && Integer.bitCount(bits) >= Integer.bitCount(best)) {
                continue;
            }
            boolean[] filled = stand.clone();
            boolean open = true;
            for (int s = 1; s <= m.height[t]; s++) {
                if ((bits >> (s - 1) & 1) == 1) {
                    open &= !stand[s];
                    filled[s] = true;
                }
            }
            best = open && m.held(t, filled) ? bits : best;
        }
        return best;
    }

    private int[] blame(int g) {
        int t = m.guards[g][0];
        boolean[] stand = m.stand(t);
        int[] none = {NONE, NONE, NONE};
        if (reach(stand, m.guards[g][1], 0) == m.height[t]) {
            return none;
        }
        List<Integer> own = new ArrayList<>();
        for (int i = 0; i < m.loans.size(); i++) {
            if (m.loans.get(i)[7] == 0 && m.loans.get(i)[0] == t) {
                own.add(i);
            }
        }
        int fewest = 99;
        int least = 0;
        int sets = 0;
        for (int set = 0; set < 1 << own.size(); set++) {
            boolean[] given = stand.clone();
            int bits = 0;
            for (int k = 0; k < own.size(); k++) {
                if ((set >> k & 1) == 1) {
                    given[m.loans.get(own.get(k))[1]] = true;
                    bits |= 1 << own.get(k);
                }
            }
            int size = Integer.bitCount(set);
            if (size > fewest || reach(given, m.guards[g][1], 0) != m.height[t]) {
                continue;
            }
            least = size < fewest ? bits : Math.min(least, bits);
            sets = size < fewest ? 1 : sets + 1;
            fewest = size;
        }
        return fewest == 99 ? none : new int[] {fewest, least, sets};
    }

    private int wood(int g) {
        int t = m.guards[g][0];
        int best = NONE;
        for (int bits = 0; bits < 1 << m.height[t]; bits++) {
            if (!allHow(t, bits, 3)) {
                continue;
            }
            boolean[] stand = m.stand(t);
            for (int s = 1; s <= m.height[t]; s++) {
                stand[s] |= (bits >> (s - 1) & 1) == 1;
            }
            int paid = Integer.bitCount(bits) * m.cost[t];
            if (reach(stand, m.guards[g][1], 0) == m.height[t] && (best == NONE || paid < best)) {
                best = paid;
            }
        }
        return best;
    }

    private int ring(int from, int at, int seen) {
        int best = 0;
        for (int[] loan : m.loans) {
            if (loan[7] == 1 || loan[0] != at) {
                continue;
            }
            int found = 0;
            if (loan[2] == from) {
                found = Integer.bitCount(seen);
            } else if ((seen >> loan[2] & 1) == 0) {
                found = ring(from, loan[2], seen | 1 << loan[2]);
            }
            best = best == 0 || found != 0 && found < best ? found : best;
        }
        return best;
    }

    private void compare() {
        compareCounts();
        int[] spares = new int[m.height.length];
        int[] needs = new int[m.height.length];
        for (int t = 0; t < m.height.length; t++) {
            spares[t] = spare(t);
            needs[t] = need(t);
            bitsAsSteps("spare", spares[t], t, true);
            bitsAsSteps("need", needs[t], t, false);
            compareTower(t);
        }
        compareRescue(spares, needs);
        for (int g = 0; g < m.guards.length; g++) {
            compareGuard(g);
        }
        int moved = 0;
        int ring = 0;
        for (int t = 0; t < m.height.length; t++) {
            int net = 0;
            for (int[] loan : m.loans) {
                net += loan[7] == 1 ? 0 : loan[0] == t ? 1 : loan[2] == t ? -1 : 0;
            }
            moved += Math.abs(net);
            int own = ring(t, t, 1 << t);
            ring = ring == 0 || own != 0 && own < ring ? own : ring;
        }
        Check.due("netted", x.netted(), moved / 2);
        Check.due("ring", x.ring(), ring);
        compareImage();
    }

    private void compareCounts() {
        int[] want = {m.height.length, m.guards.length, m.loans.size(), m.openCount(), m.bends, m.day,
            m.heldCount(), m.bentCount(), m.yardCount(), past.size()};
        for (int what = 0; what < want.length; what++) {
            Check.due("has " + what, x.has(what), want[what]);
        }
        for (int i = 0; i <= m.loans.size(); i++) {
            for (int what = 0; what <= 8; what++) {
                boolean none = i == m.loans.size() || what == 8;
                Check.due("loan " + what, x.loan(i, what), none ? NONE : m.loans.get(i)[what]);
            }
        }
    }

    private void bitsAsSteps(String what, int bits, int t, boolean spare) {
        Check.due(what, spare ? x.spare(t, NONE) : x.need(t, NONE), Integer.bitCount(bits));
        int k = 0;
        for (int s = 1; s <= 14; s++) {
            if ((bits >> (s - 1) & 1) == 1) {
                Check.due(what, spare ? x.spare(t, k) : x.need(t, k), s);
                k++;
            }
        }
        Check.due(what, spare ? x.spare(t, k) : x.need(t, k), NONE);
    }

    private void compareTower(int t) {
        boolean[] stand = m.stand(t);
        int count = 0;
        for (int s = 1; s <= m.height[t]; s++) {
            count += stand[s] ? 1 : 0;
            int fills = NONE;
            int lends = NONE;
            for (int i = 0; i < m.loans.size(); i++) {
                int[] loan = m.loans.get(i);
                fills = loan[7] == 0 && loan[2] == t && loan[6] == s ? i : fills;
                lends = loan[7] == 0 && loan[0] == t && loan[1] == s ? i : lends;
            }
            Check.due("how", x.step(t, s, 0), m.how[t][s]);
            Check.due("stand", x.step(t, s, 1), stand[s] ? 1 : 0);
            Check.due("fills", x.step(t, s, 2), fills);
            Check.due("lends", x.step(t, s, 3), lends);
        }
        Check.due("purse", x.purse(t), m.purse[t]);
        Check.due("cost", x.tower(t, 1), m.cost[t]);
        Check.due("stands", x.tower(t, 2), count);
        Check.due("held", x.tower(t, 3), m.held(t, stand) ? 1 : 0);
        int all = 0;
        int above = 0;
        for (int legs = 1; legs <= 6; legs++) {
            int reached = reach(stand, legs, 0);
            boolean top = reached == m.height[t];
            all += m.odds[legs];
            above += top ? m.odds[legs] : 0;
            Check.due("falls", x.falls(t, legs), top ? NONE : reached);
        }
        Check.due("odds", x.odds(t), all == 0 ? NONE : 1000 * above / all);
        compareToCome(t);
    }

    private void compareToCome(int t) {
        Model then = m.copy();
        int lost = NONE;
        int n = upTo(100);
        int rents = LentStairs.NOTHING;
        for (int k = 0; k <= 100 && m.day + k <= 999; k++) {
            if (lost == NONE && !then.held(t, then.stand(t))) {
                lost = then.day;
            }
            rents = k == n ? then.purse[t] - m.purse[t] : rents;
            then.pass();
        }
        Check.due("lost", x.lost(t), lost);
        Check.due("rents", x.rents(t, n), rents);
    }

    private void compareRescue(int[] spares, int[] needs) {
        List<int[]> loans = new ArrayList<>();
        boolean enough = true;
        for (int t = 0; t < needs.length; t++) {
            for (int s = 1; s <= 14; s++) {
                if ((needs[t] >> (s - 1) & 1) == 0) {
                    continue;
                }
                int from = 0;
                while (from < spares.length && spares[from] == 0) {
                    from++;
                }
                if (from == spares.length) {
                    enough = false;
                    continue;
                }
                int lowest = Integer.numberOfTrailingZeros(spares[from]);
                spares[from] &= ~(1 << lowest);
                loans.add(new int[] {from, lowest + 1, t, s});
            }
        }
        Check.due("rescue", x.rescue(NONE, 0), enough ? loans.size() : NONE);
        for (int k = 0; k <= loans.size(); k++) {
            for (int what = 0; what < 4; what++) {
                boolean none = !enough || k == loans.size();
                Check.due("rescue " + what, x.rescue(k, what), none ? NONE : loans.get(k)[what]);
            }
        }
    }

    private void compareGuard(int g) {
        int[] guard = m.guards[g];
        boolean[] stand = m.stand(guard[0]);
        for (int how = 0; how < 4; how++) {
            int legs = how % 2 == 0 ? guard[1] : Math.max(1, guard[1] - 1);
            Check.due("reaches", x.reaches(g, how), reach(stand, legs, how < 2 ? 0 : guard[2]));
        }
        Check.due("hops", x.hops(g), hops(stand, guard[1]));
        int[] blame = blame(g);
        for (int what = 0; what < 3; what++) {
            Check.due("blame " + what, x.blame(g, what), blame[what]);
        }
        Check.due("wood", x.wood(g), wood(g));
    }

    private void compareImage() {
        List<Integer> bytes = new ArrayList<>(List.of(m.day / 256, m.day % 256));
        for (int t = 0; t < m.height.length; t++) {
            for (int shift = 24; shift >= 0; shift -= 8) {
                bytes.add(m.purse[t] >> shift & 255);
            }
            for (int s = 1; s <= m.height[t]; s++) {
                bytes.add(m.how[t][s]);
            }
        }
        bytes.add(m.loans.size());
        for (int[] loan : m.loans) {
            for (int value : loan) {
                bytes.add(value);
            }
        }
        int c = 127;
        for (int value : bytes) {
            c = (3 * c + value) % 249;
        }
        bytes.add(c);
        Check.due("image", x.image(), bytes.size());
        for (int k = 0; k < bytes.size(); k++) {
            Check.due("octet", x.octet(k), bytes.get(k));
        }
        Check.due("octet", x.octet(bytes.size()), NONE);
    }

    /** A text and what it means, made together. */
    private interface Value {
        long on(Model then);
    }

    private record Told(String text, Value value) {
    }

    private static long bound(long value) {
        return Math.max(-1000000, Math.min(1000000, value));
    }

    private Told part(int depth) {
        int kind = upTo(depth > 0 ? 11 : 5);
        switch (kind) {
            case 0 -> {
                int n = random.nextInt(3) == 0 ? upTo(9999) : upTo(5);
                return new Told(" " + n + " ", then -> n);
            }
            case 1 -> {
                return new Told(" day ", then -> then.day);
            }
            case 2 -> {
                return new Told(" held ", Model::heldCount);
            }
            case 3 -> {
                return new Told(" lent ", Model::openCount);
            }
            case 4 -> {
                return new Told(" bent ", Model::bentCount);
            }
            case 5 -> {
                return new Told(" yard ", Model::yardCount);
            }
            case 6, 7, 8 -> {
                Told of = part(depth - 1);
                String word = new String[] {" purse ", " stands ", " reach "}[kind - 6];
                return new Told(word + of.text, then -> ofNumber(then, kind, of.value.on(then)));
            }
            case 9 -> {
                Told sum = sum(depth - 1);
                return new Told("(" + sum.text + ")", sum.value);
            }
            default -> {
                Told a = sum(depth - 1);
                Told b = sum(depth - 1);
                return kind == 10
                        ? new Told(" min(" + a.text + "," + b.text + ")", then -> Math.min(a.value.on(then), b.value.on(then)))
                        : new Told(" max(" + a.text + "," + b.text + ")", then -> Math.max(a.value.on(then), b.value.on(then)));
            }
        }
    }

    private static long ofNumber(Model then, int kind, long number) {
        int most = kind == 8 ? then.guards.length : then.height.length;
        if (number < 0 || number >= most) {
            return 0;
        }
        int i = (int) number;
        if (kind == 6) {
            return bound(then.purse[i]);
        }
        boolean[] stand = then.stand(kind == 8 ? then.guards[i][0] : i);
        if (kind == 8) {
            return reach(stand, then.guards[i][1], 0);
        }
        int count = 0;
        for (boolean one : stand) {
            count += one ? 1 : 0;
        }
        return count;
    }

    private Told product(int depth) {
        Told all = part(depth);
        while (random.nextInt(3) == 0) {
            Told left = all;
            Told right = part(depth);
            if (random.nextBoolean()) {
                all = new Told(left.text + "*" + right.text, then -> bound(left.value.on(then) * right.value.on(then)));
            } else {
                all = new Told(left.text + "/" + right.text, then -> {
                    long by = right.value.on(then);
                    return by == 0 ? 0 : (long) Math.floor((double) left.value.on(then) / by);
                });
            }
        }
        return all;
    }

    private Told sum(int depth) {
        Told all = product(depth);
        while (random.nextInt(3) == 0) {
            Told left = all;
            Told right = product(depth);
            boolean plus = random.nextBoolean();
            all = new Told(left.text + (plus ? "+" : "-") + right.text,
                then -> bound(left.value.on(then) + (plus ? 1 : -1) * right.value.on(then)));
        }
        return all;
    }

    private Told fact(int depth) {
        switch (upTo(depth > 0 ? 5 : 3)) {
            case 0 -> {
                return new Told(" all ", then -> 1);
            }
            case 4 -> {
                Told of = fact(depth - 1);
                return new Told(" not " + of.text, then -> 1 - of.value.on(then));
            }
            case 5 -> {
                Told of = test(depth - 1);
                return new Told("[" + of.text + "]", of.value);
            }
            default -> {
                Told a = sum(depth);
                Told b = sum(depth);
                int sign = upTo(2);
                return new Told(a.text + "<>=".charAt(sign) + b.text, then -> {
                    int order = Long.compare(a.value.on(then), b.value.on(then));
                    return (sign == 0 ? order < 0 : sign == 1 ? order > 0 : order == 0) ? 1 : 0;
                });
            }
        }
    }

    private Told both(int depth) {
        Told all = fact(depth);
        while (random.nextInt(3) == 0) {
            Told left = all;
            Told right = fact(depth);
            all = new Told(left.text + " and " + right.text, then -> left.value.on(then) * right.value.on(then));
        }
        return all;
    }

    private Told test(int depth) {
        Told all = both(depth);
        while (random.nextInt(3) == 0) {
            Told left = all;
            Told right = both(depth);
            all = new Told(left.text + " or " + right.text, then -> Math.max(left.value.on(then), right.value.on(then)));
        }
        return all;
    }

    private void question() {
        int verb = upTo(5);
        Told of = verb < 3 ? test(3) : sum(3);
        String text = new String[] {"first", "last", "often", "total", "most", "least"}[verb] + " " + of.text;
        if (text.length() > 1600) {
            return;
        }
        long first = NONE;
        long last = NONE;
        long total = 0;
        long most = Long.MIN_VALUE;
        long least = Long.MAX_VALUE;
        Model then = m.copy();
        for (int k = 0; k <= 100 && m.day + k <= 999; k++) {
            long value = of.value.on(then);
            first = first == NONE && value != 0 ? then.day : first;
            last = value != 0 ? then.day : last;
            total += value;
            most = Math.max(most, value);
            least = Math.min(least, value);
            then.pass();
        }
        long[] want = {first, last, total, total, most, least};
        Check.asks(x, text, want[verb]);
    }
}
