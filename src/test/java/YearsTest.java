/** Promises 9 to 34, 36 and 38, with answers worked out by hand. */
public final class YearsTest {
    private static final Due DUE = new Due();
    static final String TALE = "tale years 4 law 0 odds 5;part charm 20 tires 3 stiff 2;part charm 30 tires 5;"
        + "part charm 10 tires 4 stiff 1;part charm 5 tires 9 stiff 60;fold 0 1;fold 1 2;"
        + "knife 0 at 1;knife 2 at 2;knife 0 at 3;knife 3 at 4;";

    public static void main(String[] args) {
        partsByYears();
        parts();
        years();
        whole();
        laws();
        capAndChain();
        withoutParts();
        DUE.end();
    }

    private static void partsByYears() {
        UncutTale x = Due.told(TALE);
        int[][] stiff = {{2, 5, 5, 5, 5}, {0, 5, 10, 10, 10}, {1, 5, 9, 9, 9}, {60, 69, 78, 87, 96}};
        int[][] keeps = {{18, 15, -1, -1, -1}, {30, 25, 20, -1, -1}, {9, 5, 1, -1, -1}, {0, 0, 0, 0, 0}};
        for (int p = 0; p < 4; p++) {
            for (int y = 0; y <= 4; y++) {
                DUE.is("stiff " + p + " " + y, x.stiff(p, y), stiff[p][y]);
                DUE.is("keeps " + p + " " + y, x.keeps(p, y), keeps[p][y]);
            }
        }
        int[][] wrong = {{-1, 0}, {4, 0}, {0, -1}, {0, 5}, {6, 0}, {0, 13}, {-2147483648, 2147483647}};
        for (int[] w : wrong) {
            DUE.is("stiff", x.stiff(w[0], w[1]), -2);
            DUE.is("keeps", x.keeps(w[0], w[1]), -2);
        }
    }

    private static void parts() {
        UncutTale x = Due.told(TALE);
        int[] when = {1, 2, 2, -1};
        int[] how = {1, 2, 1, 0};
        int[] read = {15, 20, 1, -1};
        int[] dies = {-1, -1, -1, 0};
        int[] ages = {3, 10, 8, 36};
        int[] with = {0, 2, 2, 0};
        int[] best = {18, 30, 9, 0};
        for (int p = 0; p < 4; p++) {
            DUE.is("when " + p, x.when(p), when[p]);
            DUE.is("how " + p, x.how(p), how[p]);
            DUE.is("read " + p, x.read(p), read[p]);
            DUE.is("dies " + p, x.dies(p), dies[p]);
            DUE.is("ages " + p, x.ages(p), ages[p]);
            DUE.is("with " + p, x.with(p), with[p]);
            DUE.is("best " + p, x.best(p), best[p]);
        }
        for (int p = -1; p <= 4; p += 5) {
            DUE.is("when", x.when(p), -2);
            DUE.is("how", x.how(p), -2);
            DUE.is("read", x.read(p), -2);
            DUE.is("dies", x.dies(p), -2);
            DUE.is("ages", x.ages(p), -100);
            DUE.is("with", x.with(p), -2);
            DUE.is("best", x.best(p), -2);
        }
        // 12 less 5, 10, 15: dead in YEAR 3; open ones do not die
        UncutTale y = Due.told("tale years 4 law 0 odds 0;part charm 12 tires 5;part charm 12 tires 5;knife 1 at 2;");
        DUE.is("dies", y.dies(0), 3);
        DUE.is("dies not", y.dies(1), -1);
        UncutTale aired = Due.told("tale years 1 law 0 odds 0;part charm 12 tires 0 stiff 5;");
        aired.air(0, 0);
        DUE.is("best in the last YEAR", aired.best(0), 12);
        DUE.is("in the last YEAR", Due.told("tale years 3 law 0 odds 0;part charm 12 tires 5;").dies(0), 3);
    }

    private static void years() {
        UncutTale x = Due.told(TALE);
        int[] open = {0, 0, 1, 7, 7};
        int[] reads = {0, 15, 21, 0, -2};
        int[] waits = {57, 45, 21, 0, 0};
        int[] next = {1, 1, 1, 3, 3};
        int[] cut = {0, 0, 1, 3, 3};
        for (int y = 0; y <= 4; y++) {
            DUE.is("open " + y, x.open(y), open[y]);
            DUE.is("reads " + y, x.reads(y), reads[y]);
            DUE.is("waits " + y, x.waits(y), waits[y]);
            DUE.is("next " + y, x.next(y), next[y]);
            DUE.is("dull " + y, x.dull(y), 8);
            DUE.is("cut " + y, x.cut(y), cut[y]);
            DUE.is("lone " + y, x.lone(y), 0);
            DUE.is("stalest " + y, x.stalest(y), 3);
        }
        for (int y = -1; y <= 5; y += 6) {
            DUE.is("open", x.open(y), -2);
            DUE.is("reads", x.reads(y), -2);
            DUE.is("waits", x.waits(y), -2);
            DUE.is("next", x.next(y), -2);
            DUE.is("dull", x.dull(y), -2);
            DUE.is("cut", x.cut(y), -2);
            DUE.is("lone", x.lone(y), -2);
            DUE.is("stalest", x.stalest(y), -2);
        }
        UncutTale z = Due.told("tale years 2 law 0 odds 0;part charm 9 tires 1 stiff 2;part charm 8 tires 2 stiff 1;"
            + "part charm 9 tires 1 stiff 2;knife 0 at 1;knife 1 at 1;knife 2 at 1;");
        DUE.is("next, the first of several", z.next(0), 0);
        DUE.is("stalest, the first of several", z.stalest(0), 0);
        DUE.is("stalest, the first of several", z.stalest(1), 0);
        DUE.is("next of none", z.next(2), -1);
        DUE.is("stalest of none", z.stalest(2), -1);
        DUE.is("dull of none", z.dull(2), 0);
        UncutTale w = Due.told("tale years 2 law 0 odds 0;part charm 1 tires 1;part charm 9 tires 1;part charm 2 tires 1;");
        DUE.is("dull", w.dull(0), 0);
        DUE.is("dull", w.dull(1), 1);
        DUE.is("dull", w.dull(2), 5);
    }

    private static void whole() {
        UncutTale x = Due.told(TALE);
        DUE.is("all", x.all(), 36);
        DUE.is("sharp", x.sharp(), 3);
        DUE.is("idle", x.idle(), 4);
        DUE.is("uncut", x.uncut(), 8);
        DUE.is("done", x.done(), -1);
        DUE.is("rush", x.rush(), 2);
        DUE.is("charms", x.charms(), 5);
        DUE.is("peak", x.peak(), 2);
        DUE.is("first", x.first(), 1);
        DUE.is("quiet", x.quiet(), 2);
        DUE.is("lost", x.lost(), 24);
        UncutTale y = Due.told("tale years 3 law 0 odds 0;part charm 9 tires 1;part charm 8 tires 1;fold 0 1;"
            + "knife 1 at 0;knife 1 at 0;knife 0 at 0;");
        DUE.is("done", y.done(), 1);
        DUE.is("by a knife, not of itself", y.how(0), 1);
        DUE.is("sharp", y.sharp(), 5);
        DUE.is("idle", y.idle(), 2);
        DUE.is("peak", y.peak(), 0);
        UncutTale z = new UncutTale();
        int[] none = {z.all(), z.sharp(), z.idle(), z.uncut(), z.done(), z.rush(), z.charms(), z.peak(), z.first(),
            z.quiet(), z.lost(), z.open(0), z.waits(0), z.reads(0), z.next(0), z.dull(0), z.cut(0), z.lone(0),
            z.stalest(0), z.when(0), z.how(0), z.read(0), z.dies(0), z.with(0), z.best(0), z.stiff(0, 0), z.keeps(0, 0)};
        for (int answer : none) {
            DUE.is("without a tale", answer, -2);
        }
    }

    private static void laws() {
        String rest = " odds 5;part charm 40 tires 3 stiff 2;part charm 30 tires 5;part charm 10 tires 4 stiff 1;"
            + "part charm 5 tires 2;fold 0 1;fold 1 2;knife 0 at 1;";
        int[][] one = {{0, 5, 10, 15}, {0, 5, 11, 17}, {0, 5, 15, 35}, {0, 0, 0, 0}};
        int[][] two = {{1, 5, 9, 13}, {1, 5, 9, 13}, {1, 6, 16, 36}, {1, 1, 1, 1}};
        int[][] alone = {{0, 2, 4, 6}, {0, 2, 4, 6}, {0, 2, 6, 14}, {0, 2, 4, 6}};
        for (int law = 0; law < 4; law++) {
            UncutTale x = Due.told("tale years 3 law " + law + rest);
            for (int y = 0; y <= 3; y++) {
                DUE.is("law " + law + " year " + y, x.stiff(1, y), one[law][y]);
                DUE.is("law " + law + " year " + y, x.stiff(2, y), two[law][y]);
                DUE.is("law " + law + " year " + y, x.stiff(3, y), alone[law][y]);
            }
        }
    }

    private static void capAndChain() {
        UncutTale x = Due.told("tale years 12 law 2 odds 0;part charm 60 tires 9 stiff 45;part charm 60 tires 0;");
        DUE.is("99 at most", x.stiff(0, 1), 99);
        DUE.is("99 at most", x.stiff(0, 12), 99);
        DUE.is("twice nothing", x.stiff(1, 12), 0);
        DUE.is("98", Due.told("tale years 1 law 2 odds 0;part charm 1 tires 8 stiff 45;").stiff(0, 1), 98);
        // a star: its middle opens of itself as the last of its points is opened, and only then
        UncutTale y = Due.told("tale years 3 law 0 odds 0;part charm 7 tires 1;part charm 7 tires 1;part charm 7 tires 1;"
            + "fold 0 1;fold 0 2;knife 1 at 0;knife 2 at 1;");
        DUE.is("when", y.when(0), 1);
        DUE.is("how", y.how(0), 2);
        DUE.is("done", y.done(), 2);
        DUE.is("with", y.with(2), 1);
        DUE.is("with another year", y.with(1), 0);
        DUE.is("rush", y.rush(), 2);
        // a pair: each has the other's fold alone
        UncutTale z = Due.told("tale years 1 law 0 odds 0;part charm 7 tires 1;part charm 7 tires 1;fold 1 0;knife 1 at 0;");
        DUE.is("all", z.all(), 14);
        DUE.is("cut", z.cut(1), 1);
        DUE.is("cut", z.cut(0), 0);
        UncutTale one = Due.told("tale years 1 law 0 odds 0;part charm 7 tires 1;knife 0 at 0;");
        DUE.is("done in the last YEAR", one.done(), 1);
        DUE.is("rush of YEAR 0", one.rush(), 1);
        DUE.is("first is YEAR 0", one.first(), 0);
        DUE.is("none is quiet", one.quiet(), 0);
        DUE.is("nothing is left", one.charms(), 0);
        DUE.is("twelve years", Due.told("tale years 12 law 0 odds 0;part charm 7 tires 0;knife 0 at 11;").open(12), 1);
        DUE.is("the last YEAR has no knives",
            Due.told("tale years 1 law 0 odds 0;part charm 7 tires 1;knife 0 at 1;").all(), 0);
    }

    private static void withoutParts() {
        UncutTale x = Due.told("tale years 2 law 0 odds 0;");
        DUE.is("open", x.open(2), 0);
        DUE.is("all", x.all(), 0);
        DUE.is("waits", x.waits(0), 0);
        DUE.is("next", x.next(0), -1);
        DUE.is("stalest", x.stalest(0), -1);
        DUE.is("uncut", x.uncut(), 0);
        DUE.is("done: there is one", x.done(), -1);
        DUE.is("rush", x.rush(), 0);
        DUE.is("peak", x.peak(), 0);
        DUE.is("first", x.first(), -1);
        DUE.is("quiet", x.quiet(), 2);
        DUE.is("sharp", x.sharp(), 0);
    }
}
