import java.util.List;
import java.util.Random;

/** Runs of calls by chance (always the same ones), each answer held against the Model's. */
public final class RandomRunsTest {
    private static final Due DUE = new Due();
    private static Random chance;
    private static UncutTale x;
    private static Model m;

    public static void main(String[] args) {
        int runs = args.length > 0 ? Integer.parseInt(args[0]) : 150;
        long seed = args.length > 1 ? Long.parseLong(args[1]) : 7;
        for (int run = 0; run < runs; run++) {
            chance = new Random(seed * 100000 + run);
            x = new UncutTale();
            m = new Model();
            if (pick(10) == 0) {
                askSome(10);
            }
            for (int round = 0; round < 3; round++) {
                if (round == 0 || pick(2) == 0) {
                    tellOne();
                }
                for (int i = 0; i < 4; i++) {
                    act();
                    askSome(25);
                }
            }
        }
        DUE.end();
    }

    private static int pick(int n) {
        return chance.nextInt(n);
    }

    private static int pick(int from, int to) {
        return from + chance.nextInt(to - from + 1);
    }

    // ---- texts ----

    private static void tellOne() {
        String text = text();
        if (pick(4) == 0) {
            text = spoil(text);
        }
        if (text.length() > 680) {
            text = text.substring(0, 680);
        }
        is("end", x.end(0), m.end(0));
        for (int at = 0; at < text.length(); at += 20) {
            int[] w = new int[5];
            for (int i = 0; i < 5; i++) {
                w[i] = Due.word(text, at + 4 * i);
            }
            is("feed", x.feed(w[0], w[1], w[2], w[3], w[4]), m.feed(w));
        }
        is("end", x.end(text.length()), m.end(text.length()));
        is("tale of " + text, x.tale(), m.tale());
        for (int what = -1; what < 3; what++) {
            is("fault " + what + " of " + text, x.fault(what), m.fault(what));
        }
        for (int what = -1; what <= 10; what++) {
            is("count " + what, x.count(what), count(what));
        }
    }

    private static int count(int what) {
        int rows = 0;
        for (long[] row : m.slots) {
            rows += row == null ? 0 : 1;
        }
        int[] counts = {m.t.years, m.t.law, m.t.odds, m.t.parts.size(), m.t.folds.size(), m.t.knives.size(),
            m.t.acts.size(), m.t.lines, m.tape.length(), rows};
        return what < 0 || what >= counts.length ? -1 : counts[what];
    }

    private static String text() {
        StringBuilder b = new StringBuilder();
        int years = pick(3) == 0 ? pick(1, 12) : pick(1, 5);
        b.append("tale years ").append(years).append(" law ").append(pick(4)).append(" odds ")
            .append(pick(3) == 0 ? pick(0, 10) : pick(3, 7)).append(";\n");
        int parts = pick(12) == 0 ? 0 : pick(1, 6);
        int most = pick(4) == 0 ? 9 : 3;
        for (int p = 0; p < parts; p++) {
            b.append("part charm ").append(pick(0, 60)).append(" tires ").append(pick(0, most));
            if (pick(2) == 0) {
                b.append(" stiff ").append(pick(1, 3) == 1 ? pick(1, 60) : pick(1, 15));
            }
            b.append(";");
        }
        boolean[][] joined = new boolean[6][6];
        int folds = 0;
        for (int i = pick(0, 2 * parts); i > 0 && parts > 1 && folds < 10; i--) {
            int p = pick(parts);
            int q = pick(parts);
            if (p != q && !joined[p][q]) {
                joined[p][q] = joined[q][p] = true;
                folds++;
                b.append("fold ").append(p).append(" ").append(q).append("; ");
            }
        }
        for (int k = pick(0, pick(3) == 0 ? 8 : 5); k > 0 && parts > 0; k--) {
            b.append("knife ").append(pick(parts)).append(" at ")
                .append(pick(5) == 0 ? pick(0, 11) : pick(0, years)).append(";");
        }
        return b.toString();
    }

    private static String spoil(String text) {
        StringBuilder b = new StringBuilder(text);
        String[] bits = {";", "tale ", "part ", "fold 0 1;", "knife 0 at 3;", "x", "A", "9", "60", " ", "\n", "",
            "stiff 0", "stiff 4 ", "\u00e9", "\0", "999999999999999", "00", "at", "charm ", "fold 1 1;", "-"};
        for (int i = pick(1, 2); i > 0; i--) {
            int at = pick(b.length() + 1);
            int to = Math.min(b.length(), at + pick(4));
            b.replace(at, to, bits[pick(bits.length)]);
        }
        if (pick(4) == 0) {
            b.setLength(pick(b.length() + 1));
        }
        return b.toString();
    }

    // ---- acts ----

    private static void act() {
        int p = pick(-1, m.t.parts.size());
        int y = pick(-1, m.t.years);
        switch (pick(9)) {
            case 0: case 1: addAct(0, p, y); break;
            case 2: case 3: addAct(1, p, y); break;
            case 4: undo(); break;
            case 5: anewOrRate(p); break;
            case 6: images(); break;
            case 7: slots(); break;
            default: seen(); break;
        }
    }

    private static void addAct(int kind, int p, int y) {
        int due = !m.isPart(p) || !m.isWork(y) ? -2 : m.t.acts.size() >= 20 ? -5 : 0;
        if (due == 0) {
            m.t.acts.add(new int[] {kind, p, y});
            due = kind == 0 ? m.now().total : m.now().stiff[m.t.years][p];
        }
        is(kind == 0 ? "knife" : "air", kind == 0 ? x.knife(p, y) : x.air(p, y), due);
    }

    private static void undo() {
        int due = !m.told() ? -2 : m.t.acts.isEmpty() ? -5 : m.t.acts.size() - 1;
        if (due >= 0) {
            m.t.acts.remove(due);
        }
        is("undo", x.undo(), due);
    }

    private static void anewOrRate(int p) {
        if (pick(2) == 0) {
            is("anew", x.anew(), m.told() ? m.t.acts.size() : -2);
            m.t.acts.clear();
        }
        int n = pick(-1, 61);
        int due = !m.isPart(p) || n < 0 || n > 60 ? -2 : !m.t.acts.isEmpty() ? -5 : m.t.parts.get(p)[0];
        if (due >= 0) {
            m.t.parts.get(p)[0] = n;
        }
        is("rate", x.rate(p, n), due);
    }

    private static void images() {
        int k = pick(-1, 3);
        if (pick(2) == 0) {
            is("image", x.image(k), k < 0 || k > 2 ? -2 : 0);
            if (k >= 0 && k < 3) {
                m.images[k] = m.t.copy();
            }
        } else {
            int due = k < 0 || k > 2 ? -2 : m.images[k] == null ? -6 : 0;
            is("back", x.back(k), due);
            if (due == 0) {
                m.t = m.images[k].copy();
            }
        }
    }

    private static void slots() {
        for (int i = 0; i < 6; i++) {
            switch (pick(3)) {
                case 0: row(pick(-1, 4), pick(20) == 0 ? pick(-1, 4) : pick(2), pick(10) == 0 ? pick(-1, 62) : pick(8)); break;
                case 1: write(pick(-1, 4), pick(-1, 8), chance.nextInt(4) == 0 ? chance.nextLong() : pick(0, 9)); break;
                default: paste(pick(0, 3), pick(-1, 4), pick(0, 3), pick(-1, 4), pick(-1, 4)); break;
            }
        }
    }

    private static void row(int s, int w, int n) {
        int due = s < 0 || s > 3 || w < 0 || w > 3 || n > 60 ? -2 : n < 0 ? -3 : 0;
        is("row", x.row(s, w, n), due);
        if (due == 0) {
            m.slots[s] = new long[n];
            m.widths[s] = w;
        }
    }

    private static void write(int s, int i, long v) {
        int due = s < 0 || s > 3 ? -2 : m.slots[s] == null ? -6 : i < 0 || i >= m.slots[s].length ? -7 : 0;
        is("write", x.write(s, i, v), due);
        if (due == 0) {
            int cut = 64 - (8 << m.widths[s]);
            m.slots[s][i] = v << cut >> cut;
        }
    }

    private static void paste(int s, int i, int to, int k, int n) {
        int due = m.slots[s] == null || m.slots[to] == null ? -6 : m.widths[s] != m.widths[to] ? -8
            : i < 0 || k < 0 || n < 0 || i + n > m.slots[s].length || k + n > m.slots[to].length ? -7 : 0;
        is("paste", x.paste(s, i, to, k, n), due);
        if (due == 0) {
            long[] were = m.slots[s].clone();
            for (int j = 0; j < n; j++) {
                m.slots[to][k + j] = were[i + j];
            }
        }
    }

    /** A row that tells what could be seen, of the PART's own telling or of another. */
    private static void seen() {
        if (m.t.parts.isEmpty()) {
            return;
        }
        int s = pick(4);
        int n = pick(0, 4);
        row(s, pick(4), 3 * n);
        int part = pick(m.t.parts.size());
        Model.Run r = pick(2) == 0 ? m.now() : m.runTold(part, pick(0, 60));
        for (int i = 0; i < n; i++) {
            int p = pick(3) == 0 ? pick(m.t.parts.size()) : part;
            int y = pick(m.t.years + 1);
            write(s, 3 * i, p);
            write(s, 3 * i + 1, y);
            write(s, 3 * i + 2, pick(12) == 0 ? pick(-1, 100) : r.stiff[y][p]);
        }
        for (int p = 0; p < m.t.parts.size(); p++) {
            askSeen(s, p);
        }
    }

    // ---- questions ----

    private static void askSome(int many) {
        for (int i = 0; i < many; i++) {
            int p = pick(8) == 0 ? pick(-1, 6) : pick(Math.max(1, m.t.parts.size()));
            int q = pick(8) == 0 ? pick(-1, 6) : pick(Math.max(1, m.t.parts.size()));
            int y = pick(10) == 0 ? pick(-1, 13) : pick(m.t.years + 1);
            Model.Run r = m.told() ? m.now() : null;
            switch (pick(9)) {
                case 0: askTold(p, q); break;
                case 1: askPart(r, p, y); break;
                case 2: askYear(r, y); break;
                case 3: askWhole(r); break;
                case 4: askSets(p); break;
                case 5: askPlans(); break;
                case 6: askSeen(pick(-1, 4), p); break;
                case 7: askOther(r, p, q); break;
                default: askChance(p); break;
            }
        }
    }

    private static void askTold(int p, int q) {
        for (int what = -1; what < 4; what++) {
            is("part", x.part(p, what), m.isPart(p) && what >= 0 && what < 3 ? m.t.parts.get(p)[what] : -2);
        }
        is("near", x.near(p), m.isPart(p) ? m.nearBits(p) : -2);
        is("far", x.far(p, q), m.far(p, q));
        is("pieces", x.pieces(), m.pieces());
        int bits = 0;
        for (int k = 0; k < m.t.knives.size(); k++) {
            bits |= m.t.knives.get(k)[0] == p ? 1 << k : 0;
        }
        is("knives", x.knives(p), m.isPart(p) ? bits : -2);
    }

    private static void askPart(Model.Run r, int p, int y) {
        boolean ok = m.isPart(p);
        boolean both = ok && m.isYear(y);
        is("stiff", x.stiff(p, y), both ? r.stiff[y][p] : -2);
        is("keeps", x.keeps(p, y), both ? m.keeps(r, p, y) : -2);
        is("when", x.when(p), ok ? r.when[p] : -2);
        is("how", x.how(p), ok ? r.how[p] : -2);
        is("read", x.read(p), ok ? r.read[p] : -2);
        is("ages", x.ages(p), ok ? r.stiff[m.t.years][p] - r.stiff[0][p] : -100);
        int dies = -1;
        int best = -1;
        int with = 0;
        for (int year = m.t.years; ok && year >= 0; year--) {
            int keeps = m.keeps(r, p, year);
            dies = keeps == 0 ? year : dies;
            best = Math.max(best, keeps);
        }
        for (int q = 0; ok && q < m.t.parts.size(); q++) {
            with |= r.when[p] != -1 && r.when[q] == r.when[p] && r.how[q] == 2 ? 1 << q : 0;
        }
        is("dies", x.dies(p), ok ? dies : -2);
        is("best", x.best(p), ok ? best : -2);
        is("with", x.with(p), ok ? with : -2);
    }

    private static void askYear(Model.Run r, int y) {
        boolean ok = m.isYear(y);
        int waits = 0, next = -1, dull = 0, lone = 0, stalest = -1, cut = 0;
        for (int p = 0; ok && p < m.t.parts.size(); p++) {
            if (r.open[y][p]) {
                continue;
            }
            int keeps = m.keeps(r, p, y);
            waits += keeps;
            next = next == -1 || keeps > m.keeps(r, next, y) ? p : next;
            stalest = stalest == -1 || r.stiff[y][p] > r.stiff[y][stalest] ? p : stalest;
            dull |= keeps == 0 ? 1 << p : 0;
            boolean lonely = m.nearBits(p) != 0;
            for (int q = 0; q < m.t.parts.size(); q++) {
                lonely &= (m.nearBits(p) >> q & 1) == 0 || r.open[y][q];
            }
            lone |= lonely ? 1 << p : 0;
        }
        for (int f = 0; ok && f < m.t.folds.size(); f++) {
            cut |= r.cut[y][f] ? 1 << f : 0;
        }
        is("open", x.open(y), ok ? r.openBits(y) : -2);
        is("reads", x.reads(y), m.isWork(y) ? r.reads[y] : -2);
        is("waits", x.waits(y), ok ? waits : -2);
        is("next", x.next(y), ok ? next : -2);
        is("dull", x.dull(y), ok ? dull : -2);
        is("lone", x.lone(y), ok ? lone : -2);
        is("stalest", x.stalest(y), ok ? stalest : -2);
        is("cut", x.cut(y), ok ? cut : -2);
    }

    private static void askWhole(Model.Run r) {
        boolean ok = m.told();
        int n = m.t.parts.size();
        int all = (1 << n) - 1;
        int done = -1, rush = 0, charms = 0, peak = 0, first = -1, quiet = 0, lost = 0, sharp = 0, idle = 0;
        for (int y = m.t.years; ok && y >= 0; y--) {
            done = n > 0 && r.openBits(y) == all ? y : done;
            if (y < m.t.years) {
                int opened = 0;
                for (int p = 0; p < n; p++) {
                    opened += r.when[p] == y ? 1 : 0;
                }
                rush = Math.max(rush, opened);
                quiet += opened == 0 ? 1 : 0;
                first = opened > 0 ? y : first;
                peak = r.reads[y] >= r.reads[peak] ? y : peak;
            }
        }
        for (int p = 0; ok && p < n; p++) {
            charms += r.when[p] == -1 ? m.t.parts.get(p)[0] : 0;
            lost += r.when[p] == -1 ? 0 : m.t.parts.get(p)[0] - r.read[p];
        }
        for (int k = 0; ok && k < 28; k++) {
            sharp |= r.opened[k] ? 1 << k : 0;
            idle |= k < m.t.knives.size() && m.t.knives.get(k)[1] < m.t.years && !r.opened[k] ? 1 << k : 0;
        }
        is("all", x.all(), ok ? r.total : -2);
        is("sharp", x.sharp(), ok ? sharp : -2);
        is("idle", x.idle(), ok ? idle : -2);
        is("uncut", x.uncut(), ok ? all & ~r.openBits(m.t.years) : -2);
        is("done", x.done(), ok ? done : -2);
        is("rush", x.rush(), ok ? rush : -2);
        is("charms", x.charms(), ok ? charms : -2);
        is("peak", x.peak(), ok ? peak : -2);
        is("first", x.first(), ok ? first : -2);
        is("quiet", x.quiet(), ok ? quiet : -2);
        is("lost", x.lost(), ok ? lost : -2);
    }

    private static void askSets(int p) {
        boolean ok = m.told();
        is("few", x.few(), ok ? Integer.bitCount(m.fews()) : -2);
        is("fews", x.fews(), ok ? m.fews() : -2);
        int set = pick(-1, 65);
        is("worth", x.worth(set), ok && set >= 0 && set < 1 << m.t.parts.size() ? m.worthRun(set).total : -2);
        long[] share = m.isPart(p) ? m.share(p) : null;
        for (int what = -1; what < 3; what++) {
            boolean there = share != null && what >= 0 && what < 2;
            is("share", x.share(p, what), there ? share[what] : -1000000);
        }
    }

    private static void askPlans() {
        int n = pick(40) == 0 ? pick(-1, 6) : m.t.parts.size() > 4 ? pick(1, 3) : pick(0, 5);
        boolean ok = m.told() && n >= 1 && n <= 5 && n <= m.t.years;
        int[] plan = ok ? m.plan(n) : null;
        is("plan " + n, x.plan(n), ok ? plan[0] : -2);
        for (int k = -1; k < 6; k++) {
            is("planned", x.planned(n, k), ok && k >= 0 && k < n ? plan[2 + k] : -2);
        }
        is("plans", x.plans(n), ok ? plan[1] : -2);
    }

    private static void askSeen(int slot, int part) {
        int refusal = slot < 0 || slot > 3 ? -2 : m.seenRefusal(slot);
        int partRefusal = m.isPart(part) ? refusal : -2;
        List<Integer> fit = partRefusal == 0 ? m.fitting(slot, part) : null;
        int[] ask = partRefusal == 0 ? m.ask(slot, part) : null;
        is("stiffs", x.stiffs(slot, part), fit == null ? partRefusal : fit.size());
        is("low", x.low(slot, part), fit == null ? partRefusal : fit.isEmpty() ? -1 : fit.get(0));
        is("high", x.high(slot, part), fit == null ? partRefusal : fit.isEmpty() ? -1 : fit.get(fit.size() - 1));
        is("ask", x.ask(slot, part), ask == null ? partRefusal : ask[0]);
        is("leaves", x.leaves(slot, part), ask == null ? partRefusal : ask[1]);
        int laws = 0;
        for (int law = 0; m.told() && refusal == 0 && law < 4; law++) {
            laws |= m.asSeen(slot, m.run(m.knivesNow(-1), law, -1, 0, -1, 0)) ? 1 << law : 0;
        }
        is("laws", x.laws(slot), !m.told() ? -2 : refusal != 0 ? refusal : laws);
    }

    private static void askOther(Model.Run r, int p, int q) {
        boolean ok = m.told();
        int[] byLaw = new int[4];
        int[] byKnife = new int[m.t.knives.size()];
        int[] byFold = new int[m.t.folds.size()];
        for (int law = 0; law < 4; law++) {
            byLaw[law] = m.run(m.knivesNow(-1), law, -1, 0, -1, 0).total;
        }
        for (int k = 0; k < byKnife.length; k++) {
            byKnife[k] = m.run(m.knivesNow(~(1 << k)), m.t.law, -1, 0, -1, 0).total;
        }
        for (int f = 0; f < byFold.length; f++) {
            byFold[f] = m.run(m.knivesNow(-1), m.t.law, f, 0, -1, 0).total;
        }
        for (int law = -1; law < 5; law++) {
            is("by", x.by(law), ok && law >= 0 && law < 4 ? byLaw[law] : -2);
        }
        is("law", x.law(), ok ? m.firstMost(byLaw, -1) : -2);
        is("blunt", x.blunt(), ok ? m.firstMost(byKnife, r.total) : -2);
        is("slit", x.slit(), ok ? m.firstMost(byFold, r.total) : -2);
        int opens = m.opens();
        is("opens", x.opens(), opens);
        is("uncle", x.uncle(), opens < 0 ? -1000 : m.duelWorth(opens, m.replies(opens)));
        is("replies", x.replies(p), m.replies(p));
        is("rests", x.rests(p, q), m.rests(p, q));
        int sewn = pick(10) == 0 ? pick(-1, 2) : pick(2);
        int other = pick(10) == 0 ? pick(-1, 2) : pick(2);
        is("gets", x.gets(p, q, sewn, other), m.gets(p, q, sewn, other));
    }

    private static void askChance(int p) {
        boolean ok = m.told();
        boolean isPart = m.isPart(p);
        long[] part = isPart ? m.chance(p) : null;
        long[] mean = ok ? m.chance(-1) : null;
        for (int what = -1; what < 3; what++) {
            boolean there = what == 0 || what == 1;
            is("chance", x.chance(p, what), isPart && there ? part[what] : -2);
            is("mean", x.mean(what), ok && there ? mean[what] : -2);
        }
        int seed = pick(4) == 0 ? 2000000000 + pick(-2, 2) : pick(6) == 0 ? -pick(2) : chance.nextInt(2000000000);
        boolean isSeed = seed >= 0 && seed <= 2000000000;
        is("drawn", x.drawn(seed, 0), ok && isSeed ? m.come(seed) : -2);
        is("drawn", x.drawn(seed, 1), ok && isSeed ? m.drawnOpen(seed) : -2);
        is("drawn", x.drawn(seed, 2), -2);
        int n = pick(10) == 0 ? pick(-1, 21) : pick(1, 20);
        int times = 0;
        for (int i = 0; isPart && isSeed && i < n; i++) {
            times += m.drawnOpen((long) seed + i) >> p & 1;
        }
        is("luck", x.luck(seed, n, p), isPart && isSeed && n >= 1 && n <= 20 ? times : -2);
    }

    private static void is(String call, long got, long want) {
        DUE.is(call, got, want);
    }
}
