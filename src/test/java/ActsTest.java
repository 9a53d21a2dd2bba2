/** Promises 63 to 66, 69, 71 and 72, with answers worked out by hand. */
public final class ActsTest {
    private static final Due DUE = new Due();
    private static final String TALE = YearsTest.TALE;

    public static void main(String[] args) {
        knives();
        airing();
        takenBack();
        twenty();
        rates();
        images();
        withoutTale();
        DUE.end();
    }

    private static void knives() {
        UncutTale x = Due.told(TALE);
        DUE.is("knife", x.knife(3, 0), 36);
        DUE.is("knife", x.knife(1, 0), 57);
        DUE.is("sharp", x.sharp(), 48);
        DUE.is("idle", x.idle(), 7);
        DUE.is("done", x.done(), 1);
        DUE.is("told ones stay", x.count(5), 4);
        DUE.is("told ones stay", x.knives(1), 0);
        int[][] wrong = {{4, 0}, {-1, 0}, {0, 4}, {0, -1}, {0, 5}};
        for (int[] w : wrong) {
            DUE.is("knife", x.knife(w[0], w[1]), -2);
            DUE.is("air", x.air(w[0], w[1]), -2);
        }
        DUE.is("none of these came", x.count(6), 2);
        UncutTale y = Due.told("tale years 2 law 0 odds 0;part charm 9 tires 1;knife 0 at 1;");
        y.air(0, 0);
        DUE.is("told ones are first", y.knife(0, 1), 8);
        DUE.is("told ones are first", y.sharp(), 1);
        DUE.is("airing has no number", y.knife(0, 0), 9);
        DUE.is("airing has no number", y.sharp(), 4);
    }

    private static void airing() {
        UncutTale x = Due.told(TALE);
        DUE.is("0 at least", x.air(1, 0), 10);
        DUE.is("air", x.air(1, 2), 0);
        DUE.is("not yet", x.stiff(1, 2), 10);
        DUE.is("as when it was opened", x.stiff(1, 3), 0);
        DUE.is("airing of it aside", x.keeps(1, 2), 20);
        DUE.is("airing of it aside", x.waits(2), 21);
        DUE.is("read", x.read(1), 30);
        DUE.is("ages", x.ages(1), 0);
        DUE.is("all", x.all(), 46);
        DUE.is("air", x.air(3, 3), 86);
        DUE.is("air again", x.air(3, 3), 76);
        DUE.is("an open one is as it was", x.air(0, 2), 5);
        // 60 less 10, then 9 more; 99 less 10, twice 89 is 99 again
        UncutTale y = Due.told("tale years 2 law 0 odds 0;part charm 9 tires 9 stiff 60;");
        DUE.is("air", y.air(0, 0), 68);
        DUE.is("keeps", y.stiff(0, 1), 59);
        UncutTale z = Due.told("tale years 3 law 2 odds 0;part charm 9 tires 9 stiff 60;");
        DUE.is("air", z.air(0, 1), 99);
        for (int i = 0; i < 6; i++) {
            z.air(0, 0);
        }
        DUE.is("aired to nothing", z.stiff(0, 1), 9);
        // 12 of YEAR 1 are aired to 2 and doubled: the aired one waits on
        UncutTale w = Due.told("tale years 2 law 2 odds 0;part charm 9 tires 2 stiff 5;");
        DUE.is("air", w.air(0, 1), 6);
        UncutTale v = Due.told("tale years 3 law 0 odds 0;part charm 60 tires 0 stiff 40;");
        v.air(0, 0);
        v.air(0, 1);
        v.air(0, 2);
        DUE.is("below 0, too", v.ages(0), -30);
    }

    private static void takenBack() {
        UncutTale x = Due.told(TALE);
        DUE.is("undo of none", x.undo(), -5);
        DUE.is("anew of none", x.anew(), 0);
        x.knife(1, 0);
        x.air(3, 0);
        x.air(3, 1);
        DUE.is("undo", x.undo(), 2);
        DUE.is("stiff", x.stiff(3, 4), 86);
        DUE.is("undo", x.undo(), 1);
        DUE.is("stiff", x.stiff(3, 4), 96);
        DUE.is("all", x.all(), 57);
        DUE.is("undo", x.undo(), 0);
        DUE.is("all", x.all(), 36);
        x.knife(1, 0);
        x.air(3, 0);
        DUE.is("anew", x.anew(), 2);
        DUE.is("all", x.all(), 36);
        DUE.is("acts", x.count(6), 0);
        DUE.is("undo of none", x.undo(), -5);
    }

    private static void twenty() {
        UncutTale x = Due.told(TALE);
        for (int i = 0; i < 20; i++) {
            DUE.is("knife " + i, x.knife(i % 4, 3), 36);
        }
        DUE.is("sharp to the 24th bit", x.sharp(), 3 | 1 << 7);
        DUE.is("a 21st", x.knife(0, 0), -5);
        DUE.is("a 21st", x.air(0, 0), -5);
        DUE.is("-2 is asked ahead", x.knife(4, 0), -2);
        DUE.is("-2 is asked ahead", x.air(0, 4), -2);
        DUE.is("undo", x.undo(), 19);
        DUE.is("one more", x.air(0, 0), 3);
        DUE.is("anew", x.anew(), 20);
    }

    private static void rates() {
        UncutTale x = Due.told(TALE);
        DUE.is("rate", x.rate(0, 60), 20);
        DUE.is("charm", x.part(0, 0), 60);
        DUE.is("all", x.all(), 76);
        DUE.is("rate", x.rate(0, 0), 60);
        DUE.is("all", x.all(), 21);
        DUE.is("plan", x.plan(1), 39);
        DUE.is("rate", x.rate(1, 0), 30);
        DUE.is("plan", x.plan(1), 9);
        DUE.is("mean", x.mean(0), 1);
        int[][] wrong = {{4, 0}, {-1, 0}, {0, 61}, {0, -1}};
        for (int[] w : wrong) {
            DUE.is("rate", x.rate(w[0], w[1]), -2);
        }
        x.air(0, 0);
        DUE.is("there were acts", x.rate(0, 5), -5);
        DUE.is("-2 is asked ahead", x.rate(0, 61), -2);
        DUE.is("charm stays", x.part(0, 0), 0);
        x.undo();
        DUE.is("rate", x.rate(0, 5), 0);
        x.knife(0, 0);
        x.anew();
        DUE.is("anew leaves it", x.part(0, 0), 5);
    }

    private static void images() {
        UncutTale x = Due.told(TALE);
        DUE.is("image", x.image(3), -2);
        DUE.is("image", x.image(-1), -2);
        DUE.is("back", x.back(3), -2);
        DUE.is("back", x.back(-1), -2);
        DUE.is("it has nothing", x.back(2), -6);
        x.rate(0, 25);
        x.knife(3, 0);
        DUE.is("image", x.image(0), 0);
        x.anew();
        x.rate(0, 20);
        DUE.is("image", x.image(2), 0);
        Due.put(x, "tale years 1 law 0 odds 0;");
        x.tale();
        Due.put(x, "abc");
        x.row(0, 0, 0);
        DUE.is("another tale", x.count(0), 1);
        DUE.is("back", x.back(0), 0);
        DUE.is("years", x.count(0), 4);
        DUE.is("lines", x.count(7), 11);
        DUE.is("acts", x.count(6), 1);
        DUE.is("charm", x.part(0, 0), 25);
        DUE.is("all", x.all(), 41);
        DUE.is("the tape stays", x.count(8), 3);
        DUE.is("slots stay", x.count(9), 1);
        DUE.is("undo", x.undo(), 0);
        DUE.is("back again", x.back(0), 0);
        DUE.is("the image stays", x.count(6), 1);
        DUE.is("back", x.back(2), 0);
        DUE.is("all", x.all(), 36);
        DUE.is("acts", x.count(6), 0);
        DUE.is("a fault stays", x.fault(0), 0);
        DUE.is("tale", x.tale(), -4);
        DUE.is("back", x.back(0), 0);
        DUE.is("a fault stays", x.fault(0), 1);
        UncutTale y = new UncutTale();
        DUE.is("no tale is kept, too", y.image(1), 0);
        Due.put(y, TALE);
        y.tale();
        DUE.is("back", y.back(1), 0);
        DUE.is("no tale", y.all(), -2);
        DUE.is("no tale", y.count(3), 0);
    }

    private static void withoutTale() {
        UncutTale x = new UncutTale();
        DUE.is("knife", x.knife(0, 0), -2);
        DUE.is("air", x.air(0, 0), -2);
        DUE.is("undo", x.undo(), -2);
        DUE.is("anew", x.anew(), -2);
        DUE.is("rate", x.rate(0, 0), -2);
    }
}
