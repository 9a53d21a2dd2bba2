import java.math.BigInteger;
import java.util.ArrayList;
import java.util.Arrays;
import java.util.List;

/** The document's terms, done word by word and without any thrift, to hold the class against. */
final class Model {
    static final int NONE = -1;

    /** A TALE and acts. */
    static final class Tale {
        int years, law, odds, lines;
        final List<int[]> parts = new ArrayList<>();
        final List<int[]> folds = new ArrayList<>();
        final List<int[]> knives = new ArrayList<>();
        final List<int[]> acts = new ArrayList<>();

        Tale copy() {
            Tale t = new Tale();
            t.years = years;
            t.law = law;
            t.odds = odds;
            t.lines = lines;
            for (int[] p : parts) t.parts.add(p.clone());
            for (int[] f : folds) t.folds.add(f.clone());
            for (int[] k : knives) t.knives.add(k.clone());
            for (int[] a : acts) t.acts.add(a.clone());
            return t;
        }
    }

    /** What happens: told by YEARS. */
    static final class Run {
        int[][] stiff;
        boolean[][] open;
        boolean[][] cut;
        int[] when, how, read;
        boolean[] opened;
        int total;
        int[] reads;

        int openBits(int year) {
            int b = 0;
            for (int p = 0; p < open[year].length; p++) if (open[year][p]) b |= 1 << p;
            return b;
        }
    }

    Tale t = new Tale();
    StringBuilder tape = new StringBuilder();
    int fault = 0, faultPlace = NONE;
    final Tale[] images = new Tale[3];
    final long[][] slots = new long[4][];
    final int[] widths = new int[4];

    // ---- the text ----

    int feed(int... numbers) {
        if (tape.length() + 20 > 700) return NONE;
        for (int n : numbers) {
            for (int s = 24; s >= 0; s -= 8) tape.append((char) (n >>> s & 255));
        }
        return tape.length();
    }

    int end(int n) {
        if (n < 0 || n > tape.length()) return NONE;
        tape.setLength(n);
        return n;
    }

    private static final class Token {
        String text;
        int place;
        boolean word, number, end;
    }

    private List<Token> tokens() {
        List<Token> list = new ArrayList<>();
        int i = 0;
        while (i < tape.length()) {
            char c = tape.charAt(i);
            if (c == 32 || c == 10) {
                i++;
                continue;
            }
            Token k = new Token();
            k.place = i;
            int j = i + 1;
            if (c >= 'a' && c <= 'z') {
                k.word = true;
                while (j < tape.length() && tape.charAt(j) >= 'a' && tape.charAt(j) <= 'z') j++;
            } else if (c >= '0' && c <= '9') {
                k.number = true;
                while (j < tape.length() && tape.charAt(j) >= '0' && tape.charAt(j) <= '9') j++;
            }
            k.text = tape.substring(i, j);
            list.add(k);
            i = j;
        }
        Token e = new Token();
        e.place = tape.length();
        e.text = "";
        e.end = true;
        list.add(e);
        return list;
    }

    private static BigInteger num(Token k) {
        return new BigInteger(k.text);
    }

    private static boolean within(Token k, int lo, int hi) {
        return num(k).compareTo(BigInteger.valueOf(lo)) >= 0 && num(k).compareTo(BigInteger.valueOf(hi)) <= 0;
    }

    private static final String[][] LINES = {
        {"tale", "years", "#1 12", "law", "#0 3", "odds", "#0 10", ";"},
        {"part", "charm", "#0 60", "tires", "#0 9", ";"},
        {"part", "charm", "#0 60", "tires", "#0 9", "stiff", "#1 60", ";"},
        {"fold", "P", "Q", ";"},
        {"knife", "P", "at", "#0 11", ";"},
    };

    int tale() {
        fault = 0;
        faultPlace = NONE;
        List<Token> list = tokens();
        Tale made = new Tale();
        int at = 0;
        while (!list.get(at).end) {
            at = line(list, at, made);
            if (fault != 0) return -4;
            made.lines++;
        }
        t = made;
        tape.setLength(0);
        return t.lines;
    }

    private int line(List<Token> list, int from, Tale made) {
        Token head = list.get(from);
        List<String[]> forms = new ArrayList<>();
        for (String[] f : LINES) {
            if (f[0].equals(head.text) && f[0].equals("tale") == (made.lines == 0)) forms.add(f);
        }
        if (forms.isEmpty()) return bad(1, head);
        boolean full = head.text.equals("part") && made.parts.size() == 6
                || head.text.equals("fold") && made.folds.size() == 10
                || head.text.equals("knife") && made.knives.size() == 8;
        if (full) return bad(3, head);
        List<Integer> got = new ArrayList<>();
        for (int i = 1; ; i++) {
            Token k = list.get(from + i);
            List<String[]> still = new ArrayList<>();
            for (String[] f : forms) {
                if (i < f.length && stands(f[i], k)) still.add(f);
            }
            if (still.isEmpty()) return bad(1, k);
            forms = still;
            String want = forms.get(0)[i];
            if (k.number) {
                if (!asSaid(want, k, got, made)) return bad(2, k);
                got.add(num(k).intValueExact());
            }
            if (want.equals(";")) {
                keep(head.text, got, made);
                return from + i + 1;
            }
        }
    }

    private static boolean stands(String want, Token k) {
        if (want.startsWith("#") || want.equals("P") || want.equals("Q")) return k.number;
        return want.equals(k.text);
    }

    private static boolean asSaid(String want, Token k, List<Integer> got, Tale made) {
        if (want.startsWith("#")) {
            String[] b = want.substring(1).split(" ");
            return within(k, Integer.parseInt(b[0]), Integer.parseInt(b[1]));
        }
        if (!within(k, 0, made.parts.size() - 1)) return false;
        if (want.equals("Q")) {
            int a = got.get(0), b = num(k).intValueExact();
            if (a == b) return false;
            for (int[] f : made.folds) {
                if (f[0] == a && f[1] == b || f[0] == b && f[1] == a) return false;
            }
        }
        return true;
    }

    private static void keep(String head, List<Integer> got, Tale made) {
        switch (head) {
            case "tale": made.years = got.get(0); made.law = got.get(1); made.odds = got.get(2); break;
            case "part": made.parts.add(new int[] {got.get(0), got.get(1), got.size() > 2 ? got.get(2) : 0}); break;
            case "fold": made.folds.add(new int[] {got.get(0), got.get(1)}); break;
            default: made.knives.add(new int[] {got.get(0), got.get(1)}); break;
        }
    }

    private int bad(int what, Token k) {
        fault = what;
        faultPlace = k.place;
        return 0;
    }

    int fault(int what) {
        return what == 0 ? fault : what == 1 ? faultPlace : NONE;
    }

    // ---- what happens (III) ----

    List<int[]> knivesNow(int toldMask) {
        List<int[]> list = new ArrayList<>();
        int n = 0;
        for (int[] k : t.knives) {
            if ((toldMask >> n & 1) == 1) list.add(new int[] {k[0], k[1], n});
            n++;
        }
        for (int[] a : t.acts) {
            if (a[0] == 0) list.add(new int[] {a[1], a[2], n++});
        }
        return list;
    }

    Run now() {
        return run(knivesNow(-1), t.law, NONE, 0, NONE, 0);
    }

    Run run(List<int[]> knives, int law, int lessFold, int sewn, int otherPart, int otherStiff) {
        int P = t.parts.size(), F = t.folds.size(), Y = t.years;
        Run r = new Run();
        r.stiff = new int[Y + 1][P];
        r.open = new boolean[Y + 1][P];
        r.cut = new boolean[Y + 1][F];
        r.when = new int[P];
        r.how = new int[P];
        r.read = new int[P];
        r.reads = new int[Y];
        r.opened = new boolean[40];
        Arrays.fill(r.when, NONE);
        Arrays.fill(r.read, NONE);
        int[] stiff = new int[P];
        boolean[] open = new boolean[P];
        boolean[] cut = new boolean[F];
        for (int p = 0; p < P; p++) stiff[p] = p == otherPart ? otherStiff : t.parts.get(p)[2];
        for (int y = 0; y <= Y; y++) {
            r.stiff[y] = stiff.clone();
            r.open[y] = open.clone();
            r.cut[y] = cut.clone();
            if (y == Y) break;
            for (int[] a : t.acts) {
                if (a[0] == 1 && a[2] == y && !open[a[1]]) stiff[a[1]] = Math.max(0, stiff[a[1]] - 10);
            }
            for (int[] k : knives) {
                if (k[1] == y && !open[k[0]]) {
                    opening(r, k[0], y, 1, stiff, open, cut, lessFold);
                    r.opened[k[2]] = true;
                }
            }
            boolean again = true;
            while (again) {
                again = false;
                for (int p = 0; p < P && !again; p++) {
                    if (open[p] || (sewn >> p & 1) == 1) continue;
                    int folds = 0, cuts = 0;
                    for (int f = 0; f < F; f++) {
                        if (f != lessFold && (t.folds.get(f)[0] == p || t.folds.get(f)[1] == p)) {
                            folds++;
                            if (cut[f]) cuts++;
                        }
                    }
                    if (folds > 0 && folds == cuts) {
                        opening(r, p, y, 2, stiff, open, cut, lessFold);
                        again = true;
                    }
                }
            }
            int[] then = stiff.clone();
            for (int p = 0; p < P; p++) {
                if (open[p]) continue;
                int shutNear = 0, openNear = 0;
                for (int f = 0; f < F; f++) {
                    if (f == lessFold) continue;
                    int[] fold = t.folds.get(f);
                    int q = fold[0] == p ? fold[1] : fold[1] == p ? fold[0] : NONE;
                    if (q != NONE && open[q]) openNear++;
                    if (q != NONE && !open[q]) shutNear++;
                }
                int tires = t.parts.get(p)[1];
                int more = 0;
                if (law == 0) more = tires;
                if (law == 1) more = tires + openNear;
                if (law == 2) more = stiff[p] + tires;
                if (law == 3 && shutNear == 0) more = tires;
                then[p] = Math.min(99, stiff[p] + more);
            }
            stiff = then;
        }
        return r;
    }

    private void opening(Run r, int p, int y, int how, int[] stiff, boolean[] open, boolean[] cut, int lessFold) {
        open[p] = true;
        r.when[p] = y;
        r.how[p] = how;
        r.read[p] = Math.max(0, t.parts.get(p)[0] - stiff[p]);
        r.total += r.read[p];
        r.reads[y] += r.read[p];
        for (int f = 0; f < cut.length; f++) {
            if (f != lessFold && (t.folds.get(f)[0] == p || t.folds.get(f)[1] == p)) cut[f] = true;
        }
    }

    // ---- who is there ----

    boolean told() {
        return t.lines > 0;
    }

    boolean isPart(int p) {
        return told() && p >= 0 && p < t.parts.size();
    }

    boolean isYear(int y) {
        return told() && y >= 0 && y <= t.years;
    }

    boolean isWork(int y) {
        return told() && y >= 0 && y < t.years;
    }

    int nearBits(int p) {
        int b = 0;
        for (int[] f : t.folds) {
            if (f[0] == p) b |= 1 << f[1];
            if (f[1] == p) b |= 1 << f[0];
        }
        return b;
    }

    int far(int a, int b) {
        if (!isPart(a) || !isPart(b)) return -2;
        int P = t.parts.size();
        int[][] d = new int[P][P];
        for (int[] row : d) Arrays.fill(row, 1000);
        for (int i = 0; i < P; i++) d[i][i] = 0;
        for (int[] f : t.folds) d[f[0]][f[1]] = d[f[1]][f[0]] = 1;
        for (int k = 0; k < P; k++) {
            for (int i = 0; i < P; i++) {
                for (int j = 0; j < P; j++) d[i][j] = Math.min(d[i][j], d[i][k] + d[k][j]);
            }
        }
        return d[a][b] >= 1000 ? NONE : d[a][b];
    }

    int pieces() {
        if (!told()) return -2;
        int n = 0;
        for (int i = 0; i < t.parts.size(); i++) {
            boolean first = true;
            for (int j = 0; j < i; j++) if (far(j, i) != NONE) first = false;
            if (first) n++;
        }
        return n;
    }

    int keeps(Run r, int p, int y) {
        return r.open[y][p] ? NONE : Math.max(0, t.parts.get(p)[0] - r.stiff[y][p]);
    }

    // ---- sets, shares, plans ----

    List<int[]> atOnce(int set) {
        List<int[]> list = new ArrayList<>();
        for (int p = 0; p < 6; p++) if ((set >> p & 1) == 1) list.add(new int[] {p, 0, p});
        return list;
    }

    Run worthRun(int set) {
        return run(atOnce(set), t.law, NONE, 0, NONE, 0);
    }

    int fews() {
        int all = (1 << t.parts.size()) - 1;
        int best = NONE;
        for (int set = 0; set <= all; set++) {
            if (worthRun(set).openBits(t.years) != all) continue;
            if (best == NONE || Integer.bitCount(set) < Integer.bitCount(best)) best = set;
        }
        return best;
    }

    long[] share(int p) {
        int[] worths = new int[1 << t.parts.size()];
        for (int set = 0; set < worths.length; set++) worths[set] = worthRun(set).total;
        long[] sum = {0, 0};
        orders(0, p, worths, sum);
        return lowest(sum[0], sum[1]);
    }

    private void orders(int come, int p, int[] worths, long[] sum) {
        if (come == worths.length - 1) {
            sum[1]++;
            return;
        }
        for (int q = 0; q < t.parts.size(); q++) {
            if ((come >> q & 1) == 1) continue;
            long before = sum[1];
            orders(come | 1 << q, p, worths, sum);
            if (q == p) sum[0] += (sum[1] - before) * (worths[come | 1 << q] - worths[come]);
        }
    }

    static long[] lowest(long above, long below) {
        BigInteger g = BigInteger.valueOf(above).gcd(BigInteger.valueOf(below));
        return new long[] {above / g.longValue(), below / g.longValue()};
    }

    /** most, how many rows, then the first row. */
    int[] plan(int n) {
        int[] found = new int[7];
        found[0] = NONE;
        planFrom(n, 0, new int[n], found);
        return found;
    }

    private void planFrom(int n, int k, int[] row, int[] found) {
        List<int[]> list = new ArrayList<>();
        for (int y = 0; y < k; y++) if (row[y] != NONE) list.add(new int[] {row[y], y, y});
        Run r = run(list, t.law, NONE, 0, NONE, 0);
        if (k == n) {
            if (r.total > found[0]) {
                found[0] = r.total;
                found[1] = 0;
                System.arraycopy(row, 0, found, 2, n);
            }
            if (r.total == found[0]) found[1]++;
            return;
        }
        for (int p = NONE; p < t.parts.size(); p++) {
            if (p != NONE && r.open[k][p]) continue;
            row[k] = p;
            planFrom(n, k + 1, row, found);
        }
    }

    // ---- seen ----

    int seenRefusal(int slot) {
        if (slot < 0 || slot > 3) return -2;
        if (slots[slot] == null) return -6;
        long[] row = slots[slot];
        if (row.length % 3 != 0) return -2;
        for (int i = 0; i < row.length; i += 3) {
            if (row[i] < 0 || row[i] >= t.parts.size()) return -2;
            if (row[i + 1] < 0 || row[i + 1] > t.years) return -2;
            if (row[i + 2] < 0 || row[i + 2] > 99) return -2;
        }
        return 0;
    }

    boolean asSeen(int slot, Run r) {
        long[] row = slots[slot];
        for (int i = 0; i < row.length; i += 3) {
            if (r.stiff[(int) row[i + 1]][(int) row[i]] != row[i + 2]) return false;
        }
        return true;
    }

    Run runTold(int part, int stiff) {
        return run(knivesNow(-1), t.law, NONE, 0, part, stiff);
    }

    List<Integer> fitting(int slot, int part) {
        List<Integer> list = new ArrayList<>();
        for (int s = 0; s <= 60; s++) if (asSeen(slot, runTold(part, s))) list.add(s);
        return list;
    }

    /** the YEAR, what it leaves. */
    int[] ask(int slot, int part) {
        List<Integer> fit = fitting(slot, part);
        int year = NONE, left = fit.size();
        for (int y = 0; y <= t.years; y++) {
            int[] tally = new int[100];
            int worst = 0;
            for (int s : fit) worst = Math.max(worst, ++tally[runTold(part, s).stiff[y][part]]);
            if (worst < left) {
                left = worst;
                year = y;
            }
        }
        return new int[] {year, left};
    }

    // ---- games ----

    Run duel(int p, int q) {
        List<int[]> list = new ArrayList<>();
        list.add(new int[] {p, 0, 0});
        if (q != NONE) list.add(new int[] {q, 1, 1});
        return run(list, t.law, NONE, 0, NONE, 0);
    }

    int duelWorth(int p, int q) {
        Run r = duel(p, q);
        return r.reads[0] - (t.years > 1 ? r.reads[1] : 0);
    }

    int replies(int p) {
        if (!isPart(p)) return -2;
        if (t.years == 1) return NONE;
        int best = NONE;
        for (int q = 0; q < t.parts.size(); q++) {
            if (duel(p, NONE).open[1][q]) continue;
            if (best == NONE || duelWorth(p, q) < duelWorth(p, best)) best = q;
        }
        return best;
    }

    int opens() {
        if (!told()) return -2;
        int best = NONE;
        for (int p = 0; p < t.parts.size(); p++) {
            if (best == NONE || duelWorth(p, replies(p)) > duelWorth(best, replies(best))) best = p;
        }
        return best;
    }

    int gets(int p, int q, int sp, int sq) {
        if (!isPart(p) || !isPart(q) || p == q || sp < 0 || sp > 1 || sq < 0 || sq > 1) return -1000;
        Run r = run(knivesNow(-1), t.law, NONE, sp << p | sq << q, NONE, 0);
        return (r.read[p] == NONE ? 0 : r.read[p]) + (sp == 1 ? 4 : 0);
    }

    int rests(int p, int q) {
        if (!isPart(p) || !isPart(q) || p == q) return -2;
        int bits = 0;
        int[][] pairs = {{0, 0, 1}, {1, 0, 2}, {0, 1, 4}, {1, 1, 8}};
        for (int[] c : pairs) {
            boolean better = gets(p, q, 1 - c[0], c[1]) > gets(p, q, c[0], c[1]);
            boolean otherBetter = gets(q, p, 1 - c[1], c[0]) > gets(q, p, c[1], c[0]);
            if (!better && !otherBetter) bits |= c[2];
        }
        return bits;
    }

    // ---- chance ----

    /** For a PART its chance; for NONE the mean of all(). */
    long[] chance(int p) {
        int K = t.knives.size();
        long above = 0, below = 0;
        for (int m = 0; m < 1 << K; m++) {
            long w = 1;
            for (int k = 0; k < K; k++) w *= (m >> k & 1) == 1 ? t.odds : 10 - t.odds;
            Run r = run(knivesNow(m), t.law, NONE, 0, NONE, 0);
            below += w;
            above += w * (p == NONE ? r.total : r.open[t.years][p] ? 1 : 0);
        }
        return lowest(above, below);
    }

    int come(long seed) {
        BigInteger x = BigInteger.valueOf(seed);
        int bits = 0;
        for (int k = 0; k < t.knives.size(); k++) {
            x = x.multiply(BigInteger.valueOf(1103515245)).add(BigInteger.valueOf(12345)).mod(BigInteger.TWO.pow(31));
            if (x.divide(BigInteger.valueOf(65536)).intValueExact() % 10 < t.odds) bits |= 1 << k;
        }
        return bits;
    }

    int drawnOpen(long seed) {
        return run(knivesNow(come(seed)), t.law, NONE, 0, NONE, 0).openBits(t.years);
    }

    int firstMost(int[] totals, int above) {
        int found = NONE, most = above;
        for (int i = 0; i < totals.length; i++) {
            if (totals[i] > most) {
                most = totals[i];
                found = i;
            }
        }
        return found;
    }
}
