/** Promises 39 to 62, 67 and 68, with answers worked out by hand. */
public final class SetsTest {
    private static final Due DUE = new Due();
    private static final String TALE = YearsTest.TALE;
    /** Law 1: an open NEIGHBOUR makes part 1 stiffer, so the knife and the fold that bring one cost 3. */
    private static final String COSTLY = "tale years 4 law 1 odds 0;part charm 0 tires 0;part charm 60 tires 0;"
        + "part charm 10 tires 0;fold 0 1;fold 1 2;knife 0 at 0;knife 1 at 3;";
    private static final String STEEP = "tale years 3 law 2 odds 0;part charm 10 tires 9;";

    public static void main(String[] args) {
        sets();
        shares();
        plans();
        seen();
        seenWrongly();
        otherLaws();
        tooMany();
        uncleAndEar();
        sewn();
        chance();
        draws();
        withoutTale();
        DUE.end();
    }

    private static void sets() {
        UncutTale x = Due.told(TALE);
        DUE.is("few", x.few(), 2);
        DUE.is("fews", x.fews(), 10);
        int[] worth = {0, 18, 57, 57, 9, 57, 57, 57, 0};
        for (int set = 0; set < worth.length; set++) {
            DUE.is("worth " + set, x.worth(set), worth[set]);
        }
        DUE.is("worth 15", x.worth(15), 57);
        DUE.is("worth 16", x.worth(16), -2);
        DUE.is("worth -1", x.worth(-1), -2);
        UncutTale pair = Due.told("tale years 1 law 0 odds 0;part charm 7 tires 1;part charm 7 tires 1;fold 1 0;");
        DUE.is("few", pair.few(), 1);
        DUE.is("the least", pair.fews(), 1);
        UncutTale none = Due.told("tale years 1 law 0 odds 0;");
        DUE.is("few", none.few(), 0);
        DUE.is("fews", none.fews(), 0);
        DUE.is("worth", none.worth(0), 0);
        DUE.is("worth", none.worth(1), -2);
        x.air(0, 0);
        x.knife(1, 0);
        DUE.is("aired as now, other knives not", x.worth(1), 20);
        DUE.is("few", x.few(), 2);
    }

    private static void shares() {
        UncutTale x = Due.told(TALE);
        int[][] due = {{14, 1}, {67, 2}, {19, 2}, {0, 1}};
        for (int p = 0; p < 4; p++) {
            DUE.is("share " + p, x.share(p, 0), due[p][0]);
            DUE.is("share " + p, x.share(p, 1), due[p][1]);
        }
        int[][] wrong = {{4, 0}, {-1, 0}, {0, 2}, {0, -1}};
        for (int[] w : wrong) {
            DUE.is("share", x.share(w[0], w[1]), -1000000);
        }
    }

    private static void plans() {
        UncutTale x = Due.told(TALE);
        DUE.is("plan 1", x.plan(1), 57);
        DUE.is("planned", x.planned(1, 0), 1);
        DUE.is("plans", x.plans(1), 1);
        DUE.is("plan 2", x.plan(2), 57);
        DUE.is("planned", x.planned(2, 0), 1);
        DUE.is("planned none", x.planned(2, 1), -1);
        DUE.is("plans", x.plans(2), 2);
        DUE.is("plans 3", x.plans(3), 3);
        DUE.is("plans 4", x.plans(4), 4);
        for (int n = 0; n <= 6; n++) {
            DUE.is("plan " + n, x.plan(n), n >= 1 && n <= 4 ? 57 : -2);
            DUE.is("planned beyond", x.planned(n, n), -2);
            DUE.is("planned below", x.planned(n, -1), -2);
        }
        DUE.is("plans", x.plans(0), -2);
        DUE.is("plans", x.plans(5), -2);
        DUE.is("planned", x.planned(5, 0), -2);
        // airing in YEAR 1 makes waiting worth while: 5 then, 4 at first
        UncutTale late = Due.told("tale years 6 law 3 odds 0;part charm 9 tires 0 stiff 5;part charm 1 tires 0;fold 0 1;");
        late.air(0, 1);
        late.knife(0, 0);
        DUE.is("plan", late.plan(1), 5);
        DUE.is("plan", late.plan(2), 10);
        DUE.is("planned", late.planned(2, 0), -1);
        DUE.is("planned", late.planned(2, 1), 0);
        DUE.is("plans", late.plans(2), 2);
        DUE.is("plan", late.plan(5), 10);
        DUE.is("the least row", late.planned(5, 3), -1);
        DUE.is("the least row", late.planned(5, 4), 0);
        DUE.is("plans", late.plans(5), 8);
        DUE.is("plan", late.plan(6), -2);
        UncutTale none = Due.told("tale years 5 law 0 odds 0;");
        DUE.is("plan", none.plan(5), 0);
        DUE.is("planned", none.planned(5, 4), -1);
        DUE.is("plans", none.plans(5), 1);
    }

    private static void seen() {
        UncutTale x = Due.told(STEEP);
        x.row(0, 1, 3);
        int[][] due = {{0, 33, 1, 33, 33}, {1, 99, 16, 45, 60}, {2, 99, 43, 18, 60}, {3, 99, 56, 5, 60},
            {3, 98, 0, -1, -1}, {3, 95, 1, 4, 4}, {0, 60, 1, 60, 60}, {0, 0, 1, 0, 0}, {0, 61, 0, -1, -1}};
        for (int[] d : due) {
            x.write(0, 1, d[0]);
            x.write(0, 2, d[1]);
            DUE.is("stiffs", x.stiffs(0, 0), d[2]);
            DUE.is("low", x.low(0, 0), d[3]);
            DUE.is("high", x.high(0, 0), d[4]);
            DUE.is("ask", x.ask(0, 0), d[2] > 1 ? 0 : -1);
            DUE.is("leaves", x.leaves(0, 0), Math.min(1, d[2]));
        }
        x.row(1, 0, 0);
        DUE.is("nothing was seen", x.stiffs(1, 0), 61);
        DUE.is("nothing was seen", x.low(1, 0), 0);
        DUE.is("nothing was seen", x.high(1, 0), 60);
        DUE.is("nothing was seen", x.ask(1, 0), 0);
        DUE.is("nothing was seen", x.leaves(1, 0), 1);
        DUE.is("nothing was seen", x.laws(1), 15);
        UncutTale y = Due.told(TALE);
        see(y, 0, 1, 2, 10, 0, 4, 5);
        DUE.is("of an open one, too", y.stiffs(0, 0), 1);
        DUE.is("of an open one, too", y.low(0, 0), 2);
        DUE.is("one is told otherwise", y.low(0, 1), 0);
        see(y, 0, 1, 2, 11, 0, 4, 5);
        DUE.is("another one is not as now", y.stiffs(0, 0), 0);
        DUE.is("another one is not as now", y.leaves(0, 0), 0);
        DUE.is("it is told otherwise itself", y.low(0, 1), 1);
        see(y, 0, 1, 2, 10, 1, 2, 10);
        DUE.is("laws", y.laws(0), 1);
        see(y, 0, 0, 1, 5, 0, 0, 2);
        DUE.is("laws", y.laws(0), 3);
        see(y, 0, 0, 1, 2, 2, 4, 1);
        DUE.is("laws", y.laws(0), 8);
        see(y, 0, 0, 1, 2, 2, 4, 2);
        DUE.is("laws", y.laws(0), 0);
    }

    private static void see(UncutTale x, int slot, int... numbers) {
        x.row(slot, 0, numbers.length);
        for (int i = 0; i < numbers.length; i++) {
            x.write(slot, i, numbers[i]);
        }
    }

    private static void seenWrongly() {
        int[][] wrong = {{1, 0, 0}, {-1, 0, 0}, {0, 4, 0}, {0, -1, 0}, {0, 0, 100}, {0, 0, -1}, {0, 0}, {0}, {0, 0, 0, 0}};
        for (int[] w : wrong) {
            UncutTale x = Due.told(STEEP);
            see(x, 2, w);
            refused(x, 2, 0, -2);
            DUE.is("laws", x.laws(2), -2);
        }
        UncutTale x = Due.told(STEEP);
        refused(x, 2, 0, -6);
        DUE.is("laws", x.laws(2), -6);
        refused(x, 2, 1, -2);
        refused(x, 2, -1, -2);
        refused(x, 4, 0, -2);
        refused(x, -1, 0, -2);
        DUE.is("laws", x.laws(4), -2);
        DUE.is("laws", x.laws(-1), -2);
        UncutTale none = new UncutTale();
        refused(none, 0, 0, -2);
        DUE.is("laws", none.laws(0), -2);
        none.row(0, 0, 0);
        DUE.is("laws", none.laws(0), -2);
    }

    private static void refused(UncutTale x, int slot, int part, int due) {
        DUE.is("stiffs", x.stiffs(slot, part), due);
        DUE.is("low", x.low(slot, part), due);
        DUE.is("high", x.high(slot, part), due);
        DUE.is("ask", x.ask(slot, part), due);
        DUE.is("leaves", x.leaves(slot, part), due);
    }

    private static void otherLaws() {
        UncutTale x = Due.told(TALE);
        int[] by = {-2, 36, 35, 28, 57, -2};
        for (int law = -1; law <= 4; law++) {
            DUE.is("by " + law, x.by(law), by[law + 1]);
        }
        DUE.is("law", x.law(), 3);
        DUE.is("as it was", x.all(), 36);
        DUE.is("the least of several", Due.told("tale years 1 law 2 odds 0;part charm 3 tires 1;knife 0 at 0;").law(), 0);
    }

    private static void tooMany() {
        UncutTale x = Due.told(COSTLY);
        DUE.is("all", x.all(), 67);
        DUE.is("blunt", x.blunt(), 0);
        DUE.is("slit", x.slit(), 0);
        DUE.is("as it was", x.all(), 67);
        UncutTale y = Due.told(TALE);
        DUE.is("blunt", y.blunt(), -1);
        DUE.is("without fold 1 part 1 opens a year sooner", y.slit(), 1);
        DUE.is("no fold is too many",
            Due.told("tale years 2 law 0 odds 0;part charm 9 tires 1;part charm 9 tires 1;fold 0 1;knife 0 at 0;").slit(), -1);
        DUE.is("as much without as with", Due.told("tale years 3 law 0 odds 0;part charm 9 tires 1;part charm 9 tires 0;"
            + "part charm 9 tires 0;fold 0 1;fold 0 2;knife 1 at 2;knife 2 at 2;").slit(), -1);
        // folds 0 and 1 make part 2 stiffer by 1 each; without fold 2 it opens sooner, but part 3 does not
        DUE.is("the first of several", Due.told("tale years 2 law 1 odds 0;part charm 0 tires 0;part charm 0 tires 0;"
            + "part charm 9 tires 0;part charm 5 tires 0;fold 2 0;fold 2 1;fold 2 3;knife 0 at 0;knife 1 at 0;knife 2 at 1;").slit(), 0);
        // an act's knife is none that was told, and stays
        UncutTale z = Due.told("tale years 2 law 0 odds 0;part charm 9 tires 0 stiff 5;knife 0 at 0;knife 0 at 1;");
        z.air(0, 1);
        DUE.is("blunt", z.blunt(), 0);
        z.knife(0, 0);
        DUE.is("blunt", z.blunt(), -1);
    }

    private static void uncleAndEar() {
        UncutTale x = Due.told(TALE);
        DUE.is("uncle", x.uncle(), 57);
        DUE.is("opens", x.opens(), 1);
        int[] replies = {-2, 1, 3, 0, 1, -2};
        for (int p = -1; p <= 4; p++) {
            DUE.is("replies " + p, x.replies(p), replies[p + 1]);
        }
        // two alike, alone: the second, a year later, is worth 1 less
        UncutTale two = Due.told("tale years 2 law 0 odds 0;part charm 9 tires 1;part charm 9 tires 1;");
        DUE.is("uncle", two.uncle(), 1);
        DUE.is("the first of several", two.opens(), 0);
        DUE.is("replies", two.replies(0), 1);
        two.air(1, 1);
        two.knife(0, 0);
        DUE.is("airing as now", two.uncle(), 1);
        DUE.is("airing as now", two.opens(), 1);
        UncutTale one = Due.told("tale years 1 law 0 odds 0;part charm 9 tires 1;part charm 9 tires 1;");
        DUE.is("YEAR 1 is the last", one.uncle(), 9);
        DUE.is("YEAR 1 is the last", one.replies(0), -1);
        UncutTale pair = Due.told("tale years 3 law 0 odds 0;part charm 9 tires 1;part charm 9 tires 1;fold 0 1;");
        DUE.is("all are open", pair.replies(1), -1);
        DUE.is("all are open", pair.uncle(), 18);
        UncutTale bad = Due.told("tale years 2 law 0 odds 0;part charm 0 tires 0;part charm 9 tires 0;part charm 9 tires 0;");
        DUE.is("below 0 is told, too", bad.uncle(), 0);
        DUE.is("below 0 is told, too", bad.opens(), 1);
        UncutTale none = Due.told("tale years 2 law 0 odds 0;");
        DUE.is("no parts", none.uncle(), -1000);
        DUE.is("no parts", none.opens(), -1);
        DUE.is("no parts", none.replies(0), -2);
    }

    private static void sewn() {
        UncutTale x = Due.told(TALE);
        DUE.is("rests", x.rests(1, 2), 4);
        DUE.is("rests", x.rests(2, 1), 2);
        DUE.is("gets", x.gets(1, 2, 0, 1), 20);
        DUE.is("gets", x.gets(1, 2, 1, 1), 4);
        DUE.is("gets", x.gets(2, 1, 1, 0), 5);
        DUE.is("gets", x.gets(2, 1, 0, 0), 1);
        DUE.is("not at all", x.gets(3, 0, 0, 0), 0);
        DUE.is("not at all, sewn", x.gets(3, 0, 1, 0), 4);
        UncutTale even = Due.told("tale years 1 law 0 odds 10;part charm 9 tires 0;part charm 4 tires 0;"
            + "part charm 4 tires 0;fold 0 1;fold 0 2;knife 0 at 0;");
        DUE.is("as much either way", even.rests(1, 2), 15);
        // sewn in YEAR 0 it waits, by law 3 it tires then, and its knife comes in YEAR 2
        UncutTale late = Due.told("tale years 3 law 3 odds 0;part charm 9 tires 0;part charm 20 tires 3;fold 0 1;"
            + "knife 0 at 0;knife 1 at 2;");
        DUE.is("of itself", late.gets(1, 0, 0, 0), 20);
        DUE.is("by its knife", late.gets(1, 0, 1, 0), 18);
        DUE.is("the other's choice", late.gets(0, 1, 0, 1), 9);
        int[][] wrong = {{0, 0}, {0, 4}, {4, 0}, {-1, 0}, {0, -1}};
        for (int[] w : wrong) {
            DUE.is("rests", x.rests(w[0], w[1]), -2);
            DUE.is("gets", x.gets(w[0], w[1], 0, 0), -1000);
        }
        DUE.is("gets", x.gets(0, 1, 2, 0), -1000);
        DUE.is("gets", x.gets(0, 1, 0, 2), -1000);
        DUE.is("gets", x.gets(0, 1, -1, 0), -1000);
        DUE.is("gets", x.gets(0, 1, 0, -1), -1000);
    }

    private static void chance() {
        UncutTale x = Due.told(TALE);
        int[][] due = {{3, 4}, {3, 8}, {1, 2}, {0, 1}};
        for (int p = 0; p < 4; p++) {
            DUE.is("chance " + p, x.chance(p, 0), due[p][0]);
            DUE.is("chance " + p, x.chance(p, 1), due[p][1]);
        }
        DUE.is("mean", x.mean(0), 137);
        DUE.is("mean", x.mean(1), 8);
        int[][] wrong = {{4, 0}, {-1, 0}, {0, 2}, {0, -1}};
        for (int[] w : wrong) {
            DUE.is("chance", x.chance(w[0], w[1]), -2);
        }
        DUE.is("mean", x.mean(2), -2);
        DUE.is("mean", x.mean(-1), -2);
        x.knife(3, 0);
        DUE.is("an act is sure", x.chance(3, 0), 1);
        DUE.is("an act is sure", x.chance(3, 1), 1);
        UncutTale eight = Due.told("tale years 1 law 0 odds 3;part charm 60 tires 0;knife 0 at 0;knife 0 at 0;"
            + "knife 0 at 0;knife 0 at 0;knife 0 at 0;knife 0 at 0;knife 0 at 0;knife 0 at 0;");
        DUE.is("1 less 0.7 to the 8th", eight.chance(0, 0), 94235199);
        DUE.is("1 less 0.7 to the 8th", eight.chance(0, 1), 100000000);
        DUE.is("60 times as much", eight.mean(0), 282705597);
        DUE.is("60 times as much", eight.mean(1), 5000000);
        UncutTale none = Due.told("tale years 1 law 0 odds 3;");
        DUE.is("mean of nothing", none.mean(0), 0);
        DUE.is("mean of nothing", none.mean(1), 1);
        for (int odds = 0; odds <= 10; odds += 10) {
            UncutTale sure = Due.told("tale years 1 law 0 odds " + odds + ";part charm 7 tires 0;knife 0 at 0;");
            DUE.is("chance", sure.chance(0, 0), odds / 10);
            DUE.is("chance", sure.chance(0, 1), 1);
            DUE.is("mean", sure.mean(0), 7 * odds / 10);
        }
    }

    private static void draws() {
        UncutTale x = Due.told(TALE);
        int[][] due = {{0, 1, 1}, {1, 4, 1}, {2, 8, 0}, {3, 8, 0}, {4, 12, 1}, {2000000000, 7, 7}};
        for (int[] d : due) {
            DUE.is("drawn " + d[0], x.drawn(d[0], 0), d[1]);
            DUE.is("drawn " + d[0], x.drawn(d[0], 1), d[2]);
        }
        DUE.is("luck", x.luck(0, 7, 0), 4);
        DUE.is("luck", x.luck(0, 1, 0), 1);
        DUE.is("luck", x.luck(2, 2, 0), 0);
        DUE.is("luck", x.luck(2000000000, 3, 1), 3);
        int[][] wrong = {{-1, 1, 0}, {2000000001, 1, 0}, {0, 0, 0}, {0, 21, 0}, {0, 1, 4}, {0, 1, -1}};
        for (int[] w : wrong) {
            DUE.is("luck", x.luck(w[0], w[1], w[2]), -2);
        }
        DUE.is("drawn", x.drawn(-1, 0), -2);
        DUE.is("drawn", x.drawn(2000000001, 0), -2);
        DUE.is("drawn", x.drawn(0, 2), -2);
        DUE.is("drawn", x.drawn(0, -1), -2);
        x.knife(3, 0);
        DUE.is("an act is sure", x.drawn(2, 1), 8);
        DUE.is("none that was told", x.drawn(2, 0), 8);
        DUE.is("an act is sure", x.luck(2, 20, 3), 20);
    }

    private static void withoutTale() {
        UncutTale z = new UncutTale();
        int[] none = {z.few(), z.fews(), z.worth(0), z.plan(1), z.planned(1, 0), z.plans(1), z.by(0), z.law(), z.blunt(),
            z.slit(), z.opens(), z.replies(0), z.rests(0, 1), z.chance(0, 0), (int) z.mean(0), z.drawn(0, 0),
            z.luck(0, 1, 0)};
        for (int answer : none) {
            DUE.is("without a tale", answer, -2);
        }
        DUE.is("uncle", z.uncle(), -1000);
        DUE.is("gets", z.gets(0, 1, 0, 0), -1000);
        DUE.is("share", z.share(0, 0), -1000000);
    }
}
