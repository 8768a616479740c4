import java.util.ArrayList;
import java.util.Arrays;
import java.util.List;

/**
 * What the document says, written a second time and as plainly as it goes: whole copies of all for
 * what is asked, Java's own classes for the KINDS, a text read anew for every RATE.
 */
final class Model {
    static final int NONE = -1, BAD = -2, STATE = -3, FULL = -4, NEVER = -5;

    // ---- the kinds

    static class Mourner {
        int i, v, love, yard, paid;
        boolean away;
        int[] row = new int[4];

        int kind() {
            return 0;
        }

        int rate(int sum, int p, int day) {
            return sum;
        }

        int stands(List<Integer> trace, int x) {
            trace.add(10);
            return x + i;
        }

        int sighs(List<Integer> trace, int x) {
            trace.add(11);
            return stands(trace, x) - v;
        }

        int tells(List<Integer> trace, int x) {
            trace.add(12);
            return sighs(trace, x) * 2;
        }
    }

    static class Cousin extends Mourner {
        @Override
        int kind() {
            return 1;
        }

        @Override
        int rate(int sum, int p, int day) {
            return sum + v;
        }

        @Override
        int sighs(List<Integer> trace, int x) {
            trace.add(20);
            return super.sighs(trace, x) ^ 6;
        }
    }

    static class Creditor extends Mourner {
        @Override
        int kind() {
            return 2;
        }

        @Override
        int rate(int sum, int p, int day) {
            return sum < 0 ? -(-sum / 2) : sum / 2;
        }

        @Override
        int stands(List<Integer> trace, int x) {
            trace.add(30);
            return super.stands(trace, x * 3);
        }
    }

    static class Weeper extends Mourner {
        @Override
        int kind() {
            return 3;
        }

        @Override
        int rate(int sum, int p, int day) {
            return p >= 5 ? 1 : sum;
        }

        @Override
        int tells(List<Integer> trace, int x) {
            trace.add(40);
            return super.tells(trace, x) + sighs(trace, 1);
        }
    }

    static final class Vicar extends Cousin {
        @Override
        int kind() {
            return 4;
        }

        @Override
        int rate(int sum, int p, int day) {
            return day % 7 == 0 ? 0 : super.rate(sum, p, day);
        }

        @Override
        int stands(List<Integer> trace, int x) {
            trace.add(50);
            return -super.stands(trace, x);
        }

        @Override
        int sighs(List<Integer> trace, int x) {
            trace.add(51);
            return super.sighs(trace, x + 1);
        }
    }

    static final class Bearer extends Creditor {
        @Override
        int kind() {
            return 5;
        }

        @Override
        int rate(int sum, int p, int day) {
            return super.rate(sum, p, day) + 5;
        }

        @Override
        int tells(List<Integer> trace, int x) {
            trace.add(60);
            return super.tells(trace, x - i);
        }
    }

    static final class Told extends Weeper {
        @Override
        int kind() {
            return 6;
        }

        @Override
        int rate(int sum, int p, int day) {
            return super.rate(sum, p, day) + row[p % 4];
        }

        @Override
        int sighs(List<Integer> trace, int x) {
            trace.add(70);
            return super.sighs(trace, x) + super.stands(trace, 2);
        }

        @Override
        int stands(List<Integer> trace, int x) {
            trace.add(71);
            return super.stands(trace, x) ^ v;
        }
    }

    private static Mourner ofKind(int kind) {
        switch (kind) {
            case 1:
                return new Cousin();
            case 2:
                return new Creditor();
            case 3:
                return new Weeper();
            case 4:
                return new Vicar();
            case 5:
                return new Bearer();
            case 6:
                return new Told();
            default:
                return new Mourner();
        }
    }

    private static Class<?> classOf(int kind) {
        return ofKind(kind).getClass();
    }

    // ---- all that is

    static final class All {
        int debt = 100;
        int day = 0;
        List<Mourner> mourners = new ArrayList<>();
        List<int[]> seen = new ArrayList<>();
        List<int[]> plan = new ArrayList<>();
        List<int[]> book = new ArrayList<>();
        String parish = "";

        All copy() {
            All other = new All();
            other.debt = debt;
            other.day = day;
            other.parish = parish;
            for (Mourner m : mourners) {
                Mourner n = ofKind(m.kind());
                n.i = m.i;
                n.v = m.v;
                n.love = m.love;
                n.yard = m.yard;
                n.paid = m.paid;
                n.away = m.away;
                n.row = m.row.clone();
                other.mourners.add(n);
            }
            other.seen.addAll(seen);
            other.plan.addAll(plan);
            other.book.addAll(book);
            return other;
        }

        int fall() {
            int fall = 2;
            for (String clause : clauses()) {
                if (clause.startsWith("yard ")) {
                    fall = Integer.parseInt(clause.substring(5));
                }
            }
            return fall;
        }

        private String[] clauses() {
            return parish.isEmpty() ? new String[0] : parish.split(";");
        }

        int rate(Mourner m, int p) {
            int sum = 20 - fall() * p;
            for (String clause : clauses()) {
                if (!clause.startsWith("yard ")) {
                    String[] words = clause.split(" ");
                    int n = Integer.parseInt(words[1]);
                    if (so(words[2], m, p)) {
                        sum += words[0].equals("more") ? n : -n;
                    }
                }
            }
            return m.rate(sum, p, day);
        }

        /** Where a sign first stands outside of all brackets. */
        private static int outside(String e, char sign) {
            int depth = 0;
            for (int i = 0; i < e.length(); i++) {
                depth += e.charAt(i) == '(' ? 1 : e.charAt(i) == ')' ? -1 : 0;
                if (depth == 0 && e.charAt(i) == sign) {
                    return i;
                }
            }
            return -1;
        }

        private boolean so(String e, Mourner m, int p) {
            for (char sign : new char[] {'|', '&'}) {
                int i = outside(e, sign);
                if (i >= 0) {
                    boolean left = so(e.substring(0, i), m, p);
                    boolean right = so(e.substring(i + 1), m, p);
                    return sign == '|' ? left || right : left && right;
                }
            }
            if (e.charAt(0) == '!') {
                return !so(e.substring(1), m, p);
            }
            if (e.charAt(0) == '(') {
                return so(e.substring(1, e.length() - 1), m, p);
            }
            int[] facts = {m.i, m.kind(), m.v, m.love, p, day % 10};
            int fact = facts["pkvlyd".indexOf(e.charAt(0))];
            int number = Integer.parseInt(e.substring(2));
            int order = Integer.compare(fact, number);
            return order == "<=>".indexOf(e.charAt(1)) - 1;
        }

        /** What each pays. */
        int[] pays(int debt) {
            int n = mourners.size();
            int[] rates = new int[n];
            int together = 0;
            for (Mourner m : mourners) {
                rates[m.i] = m.away ? 0 : Math.max(0, rate(m, m.yard));
                together += rates[m.i];
            }
            int[] pays = new int[n];
            if (together > 0) {
                int left = debt;
                int dearest = 0;
                for (int i = 0; i < n; i++) {
                    pays[i] = (int) Math.floor((double) debt * rates[i] / together + 1e-9);
                    left -= pays[i];
                    if (rates[i] > rates[dearest]) {
                        dearest = i;
                    }
                }
                pays[dearest] += left;
            }
            return pays;
        }

        int share(int i) {
            return pays(debt)[i];
        }

        All with(int i, boolean away) {
            All other = copy();
            other.mourners.get(i).away = away;
            return other;
        }

        int worth(int i, int yard) {
            All other = with(i, false);
            other.mourners.get(i).yard = yard;
            return mourners.get(i).love * (10 - yard) - other.share(i);
        }

        int best(int i) {
            int best = 0;
            for (int yard = 9; yard >= 0; yard--) {
                if (worth(i, yard) >= worth(i, best)) {
                    best = yard;
                }
            }
            return best;
        }

        boolean move() {
            boolean moved = false;
            for (Mourner m : mourners) {
                if (!m.away) {
                    int best = best(m.i);
                    if (worth(m.i, best) > worth(m.i, m.yard)) {
                        m.yard = best;
                        moved = true;
                    }
                }
            }
            return moved;
        }

        void settle() {
            int[] pays = pays(debt);
            for (Mourner m : mourners) {
                m.paid += pays[m.i];
            }
            day++;
        }

        boolean allSeen(int debt) {
            int[] pays = pays(debt);
            return seen.stream().allMatch(row -> pays[row[0]] == row[1]);
        }
    }

    private All all = new All();
    private All image = null;
    private final StringBuilder text = new StringBuilder();
    private final List<String> parishes = new ArrayList<>();
    private List<Integer> trace = new ArrayList<>();
    private final long[][] tapes = new long[6][];
    private final int[] sorts = new int[6];

    private boolean has(int mourner) {
        return mourner >= 0 && mourner < all.mourners.size();
    }

    private static boolean in(int n, int most) {
        return 0 <= n && n <= most;
    }

    private Mourner get(int mourner) {
        return all.mourners.get(mourner);
    }

    int mourner(int kind, int v, int love, int yard) {
        if (!in(kind, 6) || !in(yard, 9)) {
            return NONE;
        }
        if (!in(v, 9) || !in(love, 20)) {
            return BAD;
        }
        if (all.mourners.size() == 6) {
            return FULL;
        }
        Mourner m = ofKind(kind);
        m.i = all.mourners.size();
        m.v = v;
        m.love = love;
        m.yard = yard;
        all.mourners.add(m);
        return m.i;
    }

    int of(int mourner, int what) {
        if (!has(mourner) || !(in(what, 7) || in(what - 10, 9) || in(what - 20, 9))) {
            return -10001;
        }
        Mourner m = get(mourner);
        if (what >= 20) {
            return all.worth(mourner, what - 20);
        }
        if (what >= 10) {
            return all.rate(m, what - 10);
        }
        int[] plain = {m.kind(), m.v, m.love, m.yard, m.away ? 1 : 0, m.paid, 0, 0};
        return what == 6 ? all.share(mourner) : what == 7 ? all.best(mourner) : plain[what];
    }

    int set(int mourner, int what, int n) {
        if (!has(mourner) || !in(what, 1)) {
            return NONE;
        }
        if (!in(n, what == 0 ? 20 : 9)) {
            return BAD;
        }
        Mourner m = get(mourner);
        int was = what == 0 ? m.love : m.yard;
        if (what == 0) {
            m.love = n;
        } else {
            m.yard = n;
        }
        return was;
    }

    int away(int mourner, boolean is) {
        if (!has(mourner)) {
            return NONE;
        }
        int was = get(mourner).away ? 1 : 0;
        get(mourner).away = is;
        return was;
    }

    int debt(int n) {
        if (!in(n, 999)) {
            return BAD;
        }
        int was = all.debt;
        all.debt = n;
        return was;
    }

    int row(int mourner, int part, int n) {
        if (!has(mourner) || !in(part, 3)) {
            return NONE;
        }
        if (!in(n, 9)) {
            return BAD;
        }
        if (get(mourner).kind() != 6) {
            return STATE;
        }
        int was = get(mourner).row[part];
        get(mourner).row[part] = n;
        return was;
    }

    int feed(int sign) {
        if (!in(sign, 127)) {
            return BAD;
        }
        if (text.length() == 100) {
            return FULL;
        }
        return text.append((char) sign).length();
    }

    int parish() {
        if (parishes.size() == 6) {
            return FULL;
        }
        String read = text.toString();
        text.setLength(0);
        int fault = Grammar.fault(read);
        if (fault >= 0) {
            return -10 - fault;
        }
        parishes.add(read);
        all.parish = read;
        return parishes.size() - 1;
    }

    int told(int what) {
        switch (what) {
            case 0:
                return all.day;
            case 1:
                return all.fall();
            case 2:
                return all.debt;
            case 3:
                return all.mourners.stream().mapToInt(m -> m.away ? 1 << m.i : 0).sum();
            case 4:
                return still();
            case 5:
                return gains();
            case 6:
            case 7:
                List<Integer> debts = new ArrayList<>();
                for (int debt = 0; debt <= 999; debt++) {
                    if (all.allSeen(debt)) {
                        debts.add(debt);
                    }
                }
                return what == 6 ? debts.size() : debts.isEmpty() ? NEVER : debts.get(0);
            default:
                return NONE;
        }
    }

    private int still() {
        All later = all.copy();
        for (int days = 0; days <= 20; days++) {
            if (!later.move()) {
                return days;
            }
            later.settle();
        }
        return NEVER;
    }

    private int gains() {
        All later = all.copy();
        later.move();
        int gains = 0;
        for (Mourner m : all.mourners) {
            int then = later.worth(m.i, later.mourners.get(m.i).yard);
            if (!m.away && then > all.worth(m.i, m.yard)) {
                gains |= 1 << m.i;
            }
        }
        return gains;
    }

    int pass(int n) {
        if (!in(n, 20)) {
            return BAD;
        }
        if (all.day + n > 9999) {
            return STATE;
        }
        for (int i = 0; i < n; i++) {
            all.move();
            all.settle();
            all.mourners.forEach(m -> m.paid = Math.min(m.paid, 999999));
        }
        return all.day;
    }

    int on(int n, int what) {
        if (!(in(what - 10, 5) && has(what - 10)) && !(in(what - 20, 5) && has(what - 20))) {
            return NONE;
        }
        if (!in(n, 20)) {
            return BAD;
        }
        All later = all.copy();
        for (int i = 0; i < n; i++) {
            later.move();
            later.settle();
        }
        Mourner m = later.mourners.get(what % 10);
        return what < 20 ? m.yard : m.paid;
    }

    int kept(int mourner, int q) {
        if (!has(mourner)) {
            return NONE;
        }
        if (!in(q, 999)) {
            return BAD;
        }
        if (get(mourner).away) {
            return NEVER;
        }
        for (int many = 0; many < 6; many++) {
            for (int set = 0; set < 1 << all.mourners.size(); set++) {
                if (Integer.bitCount(set) == many && (set & 1 << mourner) == 0) {
                    All other = all.copy();
                    for (Mourner m : other.mourners) {
                        m.away |= (set & 1 << m.i) != 0;
                    }
                    if (other.share(mourner) >= q) {
                        return set;
                    }
                }
            }
        }
        return NEVER;
    }

    int see(int mourner, int share) {
        if (mourner == -1) {
            all.seen.clear();
            return 0;
        }
        if (!has(mourner)) {
            return NONE;
        }
        if (!in(share, 999)) {
            return BAD;
        }
        return add(all.seen, 5, mourner, share);
    }

    private static int add(List<int[]> rows, int most, int... row) {
        if (rows.size() == most) {
            return FULL;
        }
        rows.add(row);
        return rows.size();
    }

    int can(int mourner, int what) {
        if (!has(mourner) || !in(what, 1)) {
            return NONE;
        }
        List<Integer> found = new ArrayList<>();
        for (int v = 0; v <= 9; v++) {
            All other = all.copy();
            other.mourners.get(mourner).v = v;
            if (other.allSeen(other.debt)) {
                found.add(v);
            }
        }
        return what == 0 ? found.size() : found.isEmpty() ? NEVER : found.get(0);
    }

    long odds(int mourner, int part) {
        if (!has(mourner) || !in(part, 1) || get(mourner).away) {
            return Long.MIN_VALUE;
        }
        int others = 0;
        int more = 0;
        for (Mourner m : all.mourners) {
            if (m.i != mourner && !m.away) {
                others++;
                if (all.with(m.i, true).share(mourner) > all.share(mourner)) {
                    more++;
                }
            }
        }
        return lowest(more, others, part);
    }

    long mean(int part) {
        if (!in(part, 1)) {
            return Long.MIN_VALUE;
        }
        return lowest(all.debt, (int) all.mourners.stream().filter(m -> !m.away).count(), part);
    }

    private static long lowest(int above, int below, int part) {
        if (below == 0) {
            return Long.MIN_VALUE;
        }
        int a = above;
        int b = below;
        while (b != 0) {
            int c = a % b;
            a = b;
            b = c;
        }
        return part == 0 ? above / a : below / a;
    }

    int plan(int what, int mourner) {
        if (what == -1) {
            all.plan.clear();
            return 0;
        }
        if (!in(what, 3) || (what != 0 && !has(mourner))) {
            return NONE;
        }
        return add(all.plan, 8, what, mourner);
    }

    int ends(int what) {
        if (!in(what, 1)) {
            return NONE;
        }
        All later = all.copy();
        for (int[] row : all.plan) {
            if (row[0] == 0) {
                later.move();
                later.settle();
            } else if (row[0] == 3) {
                later.mourners.get(row[1]).yard = 0;
            } else {
                later.mourners.get(row[1]).away = row[0] == 1;
            }
        }
        return later.mourners.stream().mapToInt(m -> what == 0 ? m.paid : m.yard).sum();
    }

    int book(int mourner, int yard) {
        if (mourner == -1) {
            all.book.clear();
            return 0;
        }
        if (!has(mourner) || !in(yard, 9)) {
            return NONE;
        }
        return add(all.book, 8, mourner, yard);
    }

    int looked() {
        for (int[] row : all.book) {
            if (get(row[0]).yard != row[1]) {
                return all.book.indexOf(row);
            }
        }
        return NEVER;
    }

    int judge(int tape, int i) {
        if (!in(tape, 5)) {
            return NONE;
        }
        if (tapes[tape] != null && sorts[tape] != 1) {
            return -12;
        }
        if (all.mourners.isEmpty()) {
            return NEVER;
        }
        long[] row = tapes[tape] == null || i < 0 || i > tapes[tape].length ? new long[0]
                : Arrays.copyOfRange(tapes[tape], i, tapes[tape].length);
        int[] pays = all.pays(all.debt);
        for (int m = 0; m < pays.length; m++) {
            if (m == row.length) {
                return 100 + m;
            }
            if (row[m] != pays[m]) {
                return m;
            }
        }
        return NEVER;
    }

    int image() {
        image = all.copy();
        return all.mourners.size();
    }

    int undo() {
        if (image == null) {
            return STATE;
        }
        all = image.copy();
        return all.mourners.size();
    }

    int act(int mourner, int act, int x) {
        trace = new ArrayList<>();
        if (!has(mourner) || !in(act, 2)) {
            return 0;
        }
        Mourner m = get(mourner);
        return act == 0 ? m.stands(trace, x) : act == 1 ? m.sighs(trace, x) : m.tells(trace, x);
    }

    int trace(int i) {
        return in(i, Math.min(trace.size(), 20) - 1) ? trace.get(i) : NONE;
    }

    int taken(int mourner, int k) {
        if (!in(k, 6)) {
            return BAD;
        }
        if (!has(mourner)) {
            return -11;
        }
        return classOf(k).isInstance(get(mourner)) ? get(mourner).kind() : -12;
    }

    int count(int what) {
        if (!in(what, 6)) {
            return BAD;
        }
        return new int[] {all.mourners.size(), parishes.size(), all.seen.size(), all.plan.size(),
            all.book.size(), text.length(), trace.size()}[what];
    }

    int tape(int tape, int sort, int n) {
        if (!in(tape, 5)) {
            return NONE;
        }
        if (sort == -1) {
            tapes[tape] = null;
            return 1;
        }
        if (!in(sort, 4) || n > 60) {
            return BAD;
        }
        if (n < 0) {
            return -14;
        }
        sorts[tape] = sort;
        tapes[tape] = new long[n];
        return 1;
    }

    int item(int tape, int i, long v) {
        if (!in(tape, 5)) {
            return NONE;
        }
        if (tapes[tape] == null) {
            return -11;
        }
        if (!in(i, tapes[tape].length - 1)) {
            return -13;
        }
        int sort = sorts[tape];
        int off = sort == 0 ? 56 : sort == 1 ? 48 : sort == 2 ? 32 : 0;
        tapes[tape][i] = sort == 4 ? (v == 0 ? 0 : 1) : v << off >> off;
        return 1;
    }

    long read(int tape, int i) {
        boolean there = in(tape, 5) && tapes[tape] != null && in(i, tapes[tape].length - 1);
        return there ? tapes[tape][i] : Long.MIN_VALUE;
    }

    int shift(int tape, int i, int other, int j, int n) {
        if (!in(tape, 5) || !in(other, 5)) {
            return NONE;
        }
        if (tapes[tape] == null || tapes[other] == null) {
            return -11;
        }
        if (sorts[tape] != sorts[other]) {
            return -12;
        }
        if (n < 0 || i < 0 || j < 0 || (long) i + n > tapes[tape].length
                || (long) j + n > tapes[other].length) {
            return -13;
        }
        long[] before = tapes[tape].clone();
        for (int k = 0; k < n; k++) {
            tapes[other][j + k] = before[i + k];
        }
        return n;
    }
}
