/** The edges of promises 39 to 62, 67 and 68 and of Terms IV to IX, each worked out by hand. */
public final class SetsBoundsTest {
    private static final Due DUE = new Due();
    private static final String ZERO = "part charm 0 tires 0;";
    private static final String SIX_OF_0 = ZERO + ZERO + ZERO + ZERO + ZERO + ZERO;
    private static final String SIXTY = "part charm 60 tires 0;";
    private static final String SIX = SIXTY + SIXTY + SIXTY + SIXTY + SIXTY + SIXTY;
    private static final String STAR = SIX + "fold 0 1;fold 0 2;fold 0 3;fold 0 4;fold 0 5;";
    private static final String SIX_AT_ONCE = "knife 0 at 0;knife 1 at 0;knife 2 at 0;knife 3 at 0;knife 4 at 0;knife 5 at 0;";

    public static void main(String[] args) {
        promises39And40Few();
        promise41Worth();
        promise42Share();
        promises43To45Plans();
        plansAndKnives();
        promises46To48Stiffs();
        seenAtItsEdges();
        promises49And50AskLeaves();
        promise51Laws();
        promises52And53ByLaw();
        promise54Blunt();
        promise55Slit();
        promises56To58UncleAndEar();
        promises59And60Sewn();
        promise61Chance();
        promise62Mean();
        promise67Drawn();
        promise68Luck();
        askedFirst();
        askedInBetween();
        DUE.end();
    }

    private static UncutTale told(int years, int law, String lines) {
        return toldWithOdds(years, law, 5, lines);
    }

    private static UncutTale toldWithOdds(int years, int law, int odds, String lines) {
        return Due.told("tale years " + years + " law " + law + " odds " + odds + ";" + lines);
    }

    // ---- sets ----

    private static void promises39And40Few() {
        few("no PARTS", "", 0, 0);
        few("one alone", SIXTY, 1, 1);
        few("six alone", SIX, 6, 63);
        few("six alone, whatever KNIVES were told", SIX + SIX_AT_ONCE, 6, 63);
        few("a star", STAR, 1, 1);
        few("a star about the last", SIX + "fold 5 0;fold 5 1;fold 5 2;fold 5 3;fold 5 4;", 1, 32);
        few("a ring of four: 5 or 10", SIXTY + SIXTY + SIXTY + SIXTY + "fold 0 1;fold 1 2;fold 2 3;fold 3 0;", 2, 5);
        few("two pairs: 5, 6, 9 or 10", SIXTY + SIXTY + SIXTY + SIXTY + "fold 0 1;fold 2 3;", 2, 5);
        few("a row of six: 21, 22, 26 or 42", SIX + "fold 0 1;fold 1 2;fold 2 3;fold 3 4;fold 4 5;", 3, 21);
        few("a pair and one alone", SIXTY + SIXTY + SIXTY + "fold 1 2;", 2, 3);
        UncutTale x = told(1, 0, STAR);
        x.knife(1, 0);
        x.air(0, 0);
        DUE.is("39: no KNIVES of acts", x.few(), 1);
        DUE.is("40: no KNIVES of acts", x.fews(), 1);
    }

    private static void few(String what, String lines, int few, int fews) {
        for (int years = 1; years <= 12; years += 11) {
            UncutTale x = told(years, 0, lines);
            DUE.is("39: " + what, x.few(), few);
            DUE.is("40: " + what, x.fews(), fews);
        }
    }

    private static void promise41Worth() {
        UncutTale x = told(2, 2, STAR + SIX_AT_ONCE);
        DUE.is("41: of none, whatever KNIVES were told", x.worth(0), 0);
        DUE.is("41: of all", x.worth(63), 360);
        DUE.is("41: of the middle", x.worth(1), 360);
        DUE.is("41: of the last", x.worth(32), 60);
        DUE.is("41: of all but the middle", x.worth(62), 360);
        DUE.is("41: of four points", x.worth(30), 240);
        DUE.is("41: there is no such set", x.worth(64), -2);
        DUE.is("41: there is no such set", told(2, 0, SIXTY).worth(2), -2);
        DUE.is("41: there is one", told(2, 0, SIXTY).worth(1), 60);
        DUE.is("41: of no PARTS", told(2, 0, "").worth(0), 0);
        DUE.is("41: of no PARTS", told(2, 0, "").worth(1), -2);
        UncutTale aired = told(2, 0, "part charm 20 tires 0 stiff 15;part charm 20 tires 0 stiff 30;");
        aired.air(0, 0);
        aired.air(1, 1);
        aired.knife(1, 0);
        DUE.is("41: airing as now", aired.worth(1), 15);
        DUE.is("41: airing of YEAR 1 comes too late, KNIVES of acts not", aired.worth(2), 0);
        DUE.is("41: of both", aired.worth(3), 15);
    }

    private static void promise42Share() {
        share("one alone", told(1, 0, "part charm 9 tires 0 stiff 2;"), 0, 7, 1);
        share("one of nothing: 0 / 1", told(1, 0, ZERO), 0, 0, 1);
        share("one too STIFF: 0 / 1", told(1, 0, "part charm 9 tires 0 stiff 60;"), 0, 0, 1);
        UncutTale pair = told(1, 0, "part charm 9 tires 0;part charm 4 tires 0;fold 0 1;");
        share("a pair", pair, 0, 13, 2);
        share("a pair", pair, 1, 13, 2);
        UncutTale row = told(1, 0, ZERO + "part charm 1 tires 0;" + ZERO + "fold 0 1;fold 1 2;");
        share("each order", row, 0, 1, 6);
        share("each order", row, 1, 2, 3);
        share("each order", row, 2, 1, 6);
        UncutTale star = told(12, 3, STAR);
        share("the middle: 360, 300, .., 120, 0 of six places", star, 0, 200, 1);
        for (int part = 1; part < 6; part++) {
            share("a point", star, part, 32, 1);
        }
        // its point 1 is worth 1, whoever opens it; by 0 first of all, by 1 itself, or (0 opens last) by the last point
        UncutTale one = told(1, 0, ZERO + "part charm 1 tires 0;" + ZERO + ZERO + ZERO + ZERO + "fold 0 1;fold 0 2;");
        share("by 0 ahead of it", one, 0, 1, 2);
        share("by itself", one, 1, 1, 2);
        share("one that opens nothing of worth", one, 2, 0, 1);
        share("one alone of nothing", one, 5, 0, 1);
        DUE.is("42: there are none such", one.share(6, 0), -1000000);
        DUE.is("42: there are none such", one.share(0, 2), -1000000);
    }

    private static void share(String what, UncutTale x, int part, int above, int below) {
        DUE.is("42: " + what + ", above", x.share(part, 0), above);
        DUE.is("42: " + what + ", below", x.share(part, 1), below);
    }

    // ---- plans ----

    private static void promises43To45Plans() {
        UncutTale none = told(12, 0, "");
        for (int n = 1; n <= 5; n++) {
            DUE.is("43: without PARTS", none.plan(n), 0);
            DUE.is("44: without PARTS", none.planned(n, n - 1), -1);
            DUE.is("45: without PARTS", none.plans(n), 1);
            UncutTale one = told(5, 0, ZERO);
            DUE.is("43: READ for 0", one.plan(n), 0);
            DUE.is("44: none comes ahead of PARTS", one.planned(n, 0), -1);
            DUE.is("45: in one of n YEARS, or not at all", one.plans(n), n + 1);
        }
        UncutTale six = told(5, 0, SIX_OF_0);
        // 1 + 5 * 6 + 10 * 30 + 10 * 120 + 5 * 360 + 720: by how many YEARS open one
        DUE.is("45: all rows", six.plans(5), 4051);
        DUE.is("45: of one YEAR", six.plans(1), 7);
        DUE.is("45: of two: none, then any; any, then any other or none", six.plans(2), 7 + 6 * 6);
        UncutTale pair = told(2, 0, ZERO + ZERO + "fold 0 1;");
        DUE.is("45: what opened of itself is shut no more", pair.plans(2), 3 + 2);
        // each YEAR one of six, in whatever order: 6 * 5 * 4 * 3 * 2 rows of 300
        UncutTale rich = told(12, 0, SIX);
        DUE.is("43: one a YEAR", rich.plan(5), 300);
        DUE.is("45: in whatever order", rich.plans(5), 720);
        for (int k = 0; k < 5; k++) {
            DUE.is("44: the least row", rich.planned(5, k), k);
        }
        DUE.is("43: no more than 5 YEARS", rich.plan(6), -2);
        // the last PART in the last YEAR of the plan: 99, less 10, is too STIFF till then
        UncutTale late = told(5, 0, ZERO + "part charm 9 tires 0 stiff 9;");
        late.air(1, 4);
        DUE.is("43: in YEAR 4", late.plan(5), 9);
        for (int k = 0; k < 5; k++) {
            DUE.is("44: the least row", late.planned(5, k), k == 4 ? 1 : -1);
        }
        DUE.is("45: 0 in one of four YEARS, or not at all", late.plans(5), 5);
        DUE.is("43: of four YEARS", late.plan(4), 0);
        DUE.is("43: of six YEARS", late.plan(6), -2);
        UncutTale star = told(1, 0, STAR);
        DUE.is("43: what opens of itself is READ, too", star.plan(1), 360);
        DUE.is("44: the middle", star.planned(1, 0), 0);
        DUE.is("45: it alone", star.plans(1), 1);
    }

    private static void plansAndKnives() {
        UncutTale x = told(2, 0, "part charm 9 tires 0 stiff 9;knife 0 at 1;");
        x.air(0, 1);
        DUE.is("all() has the KNIFE of YEAR 1", x.all(), 9);
        DUE.is("43: in place of all KNIVES, of whatever YEAR", x.plan(1), 0);
        DUE.is("45: none, or 0 for 0", x.plans(1), 2);
        x.knife(0, 1);
        DUE.is("43: in place of those of acts", x.plan(1), 0);
        DUE.is("43: airing as now", x.plan(2), 9);
        DUE.is("44: none in YEAR 0", x.planned(2, 0), -1);
        DUE.is("44: in YEAR 1", x.planned(2, 1), 0);
        DUE.is("45: one row", x.plans(2), 1);
        UncutTale first = told(2, 0, "part charm 9 tires 1;part charm 9 tires 1;knife 0 at 0;knife 1 at 0;");
        DUE.is("43: KNIVES of YEAR 0 come not", first.plan(1), 9);
        DUE.is("45: either of them", first.plans(1), 2);
        DUE.is("43: the second is READ for 8", first.plan(2), 17);
        DUE.is("44: the least row", first.planned(2, 0), 0);
        DUE.is("44: the least row", first.planned(2, 1), 1);
        first.undo();
        first.rate(1, 20);
        DUE.is("43: asked anew", first.plan(1), 20);
        DUE.is("44: asked anew", first.planned(1, 0), 1);
    }

    // ---- what was seen ----

    private static void see(UncutTale x, long... numbers) {
        x.row(0, 3, numbers.length);
        for (int i = 0; i < numbers.length; i++) {
            x.write(0, i, numbers[i]);
        }
    }

    private static void fits(String what, UncutTale x, int part, int many, int low, int high) {
        DUE.is("46: " + what, x.stiffs(0, part), many);
        DUE.is("47: " + what, x.low(0, part), low);
        DUE.is("48: " + what, x.high(0, part), high);
        DUE.is("49: " + what, x.ask(0, part), many > 1 ? 0 : -1);
        DUE.is("50: " + what, x.leaves(0, part), Math.min(1, many));
    }

    private static void promises46To48Stiffs() {
        UncutTale x = told(12, 0, "part charm 0 tires 9 stiff 7;part charm 0 tires 0 stiff 3;knife 1 at 0;");
        see(x);
        fits("nothing was seen", x, 0, 61, 0, 60);
        see(x, 0, 0, 0);
        fits("the least", x, 0, 1, 0, 0);
        see(x, 0, 0, 60);
        fits("the greatest", x, 0, 1, 60, 60);
        see(x, 0, 0, 61);
        fits("more than can be told", x, 0, 0, -1, -1);
        see(x, 0, 5, 44);
        fits("less than the least", x, 0, 0, -1, -1);
        see(x, 0, 5, 45);
        fits("the least in YEAR 5", x, 0, 1, 0, 0);
        see(x, 0, 5, 98);
        fits("98 in YEAR 5", x, 0, 1, 53, 53);
        see(x, 0, 5, 99);
        fits("99 at most in YEAR 5", x, 0, 7, 54, 60);
        see(x, 0, 12, 99);
        fits("99, however told, in the last one", x, 0, 61, 0, 60);
        see(x, 0, 12, 98);
        fits("never 98 in the last one", x, 0, 0, -1, -1);
        see(x, 0, 12, 99, 0, 5, 99, 0, 4, 95);
        fits("all of them", x, 0, 1, 59, 59);
        see(x, 0, 0, 5, 0, 0, 6);
        fits("not both of them", x, 0, 0, -1, -1);
        see(x, 1, 12, 3);
        fits("an open one is as now", x, 0, 61, 0, 60);
        fits("an open one, as when it was opened", x, 1, 1, 3, 3);
        see(x, 1, 12, 4);
        fits("another one is not as now", x, 0, 0, -1, -1);
        fits("it was told otherwise", x, 1, 1, 4, 4);
        see(x, 1, 12, 4, 0, 0, 7);
        fits("one was told otherwise, the other one as now", x, 1, 1, 4, 4);
        see(x, 1, 12, 4, 0, 0, 8);
        fits("both were told otherwise", x, 1, 0, -1, -1);
        fits("both were told otherwise", x, 0, 0, -1, -1);
        UncutTale aired = told(1, 0, "part charm 0 tires 0 stiff 60;");
        aired.air(0, 0);
        see(aired, 0, 1, 0);
        fits("aired to nothing", aired, 0, 11, 0, 10);
        see(aired, 0, 1, 50);
        fits("aired", aired, 0, 1, 60, 60);
        see(aired, 0, 1, 51);
        fits("aired, but more than can be", aired, 0, 0, -1, -1);
    }

    private static void seenAtItsEdges() {
        UncutTale x = told(2, 0, "part charm 0 tires 0;part charm 0 tires 0;");
        for (int n = 0; n <= 60; n++) {
            x.row(0, 0, n);
            DUE.is("46: three each, " + n, x.stiffs(0, 1), n % 3 != 0 ? -2 : 61);
            DUE.is("51: three each, " + n, x.laws(0), n % 3 != 0 ? -2 : 15);
        }
        long[][] none = {{2, 0, 0}, {6, 0, 0}, {-1, 0, 0}, {0, 3, 0}, {0, -1, 0}, {0, 13, 0}, {0, 0, 100}, {0, 0, -1}, {256, 0, 0},
            {4294967296L, 0, 0}, {0, 4294967296L, 0}, {0, 0, 4294967296L}, {Long.MIN_VALUE, 0, 0}, {0, Long.MIN_VALUE, 0},
            {0, 0, Long.MIN_VALUE}, {Long.MAX_VALUE, 0, 0}, {0, Long.MAX_VALUE, 0}, {0, 0, Long.MAX_VALUE}};
        for (long[] n : none) {
            see(x, n);
            refused(x, 0, 0, -2);
            DUE.is("51: a number is none such", x.laws(0), -2);
            see(x, 0, 0, 7, n[0], n[1], n[2]);
            refused(x, 0, 0, -2);
            DUE.is("51: a number is none such, behind one that does not fit", x.laws(0), -2);
        }
        see(x, 1, 2, 0);
        fits("the last PART, the last YEAR, not STIFF", x, 1, 1, 0, 0);
        see(x, 1, 2, 99);
        fits("99 is a number", x, 1, 0, -1, -1);
        x.row(0, 3, 60);
        x.write(0, 59, 100);
        refused(x, 0, 0, -2);
        x.write(0, 59, 99);
        fits("the twentieth does not fit", x, 0, 0, -1, -1);
        fits("nor of another PART", x, 1, 0, -1, -1);
        x.write(0, 57, 1);
        x.write(0, 59, 5);
        x.write(0, 58, 2);
        fits("the twentieth is of the other one", x, 1, 1, 5, 5);
        refused(x, 1, 0, -6);
        refused(x, 1, 2, -2);
        refused(x, 4, 2, -2);
        UncutTale none0 = told(2, 0, "");
        see(none0);
        refused(none0, 0, 0, -2);
        DUE.is("51: without PARTS, nothing seen", none0.laws(0), 15);
        see(none0, 0, 0, 0);
        DUE.is("51: without PARTS, no such PART", none0.laws(0), -2);
    }

    private static void refused(UncutTale x, int slot, int part, int due) {
        DUE.is("46: refused", x.stiffs(slot, part), due);
        DUE.is("47: refused", x.low(slot, part), due);
        DUE.is("48: refused", x.high(slot, part), due);
        DUE.is("49: refused", x.ask(slot, part), due);
        DUE.is("50: refused", x.leaves(slot, part), due);
    }

    private static void promises49And50AskLeaves() {
        UncutTale x = told(3, 2, "part charm 0 tires 9;");
        see(x, 0, 2, 99);
        DUE.is("46: 18 to 60", x.stiffs(0, 0), 43);
        DUE.is("49: YEAR 0 tells all, the first of several", x.ask(0, 0), 0);
        DUE.is("50: one", x.leaves(0, 0), 1);
        see(x, 0, 0, 5);
        DUE.is("49: one is left, no YEAR leaves fewer", x.ask(0, 0), -1);
        DUE.is("50: as now", x.leaves(0, 0), 1);
        see(x, 0, 0, 61);
        DUE.is("49: none is left", x.ask(0, 0), -1);
        DUE.is("50: as now", x.leaves(0, 0), 0);
    }

    private static void promise51Laws() {
        UncutTale x = told(1, 2, "part charm 0 tires 3 stiff 1;part charm 0 tires 3 stiff 1;part charm 0 tires 3 stiff 1;"
            + "fold 0 1;fold 1 2;knife 0 at 0;");
        see(x);
        DUE.is("51: nothing was seen", x.laws(0), 15);
        see(x, 1, 0, 1);
        DUE.is("51: as told by any", x.laws(0), 15);
        see(x, 1, 0, 0);
        DUE.is("51: by none", x.laws(0), 0);
        int[] stiff = {4, 5, 5, 1};
        int[] laws = {1, 6, 6, 8};
        for (int law = 0; law < 4; law++) {
            see(x, 1, 1, stiff[law]);
            DUE.is("51: by LAW " + law, x.laws(0), laws[law]);
        }
        see(x, 1, 1, 5, 2, 1, 4);
        DUE.is("51: none of 2's NEIGHBOURS is open", x.laws(0), 2);
        see(x, 1, 1, 5, 2, 1, 5);
        DUE.is("51: by LAW 2, the one told", x.laws(0), 4);
        see(x, 0, 1, 1);
        DUE.is("51: an open one by any", x.laws(0), 15);
        see(x, 1, 1, 5, 1, 1, 4);
        DUE.is("51: not both", x.laws(0), 0);
        see(x, 0, 1, 2);
        DUE.is("51: the first PART by none", x.laws(0), 0);
    }

    // ---- other laws, less knives, less folds ----

    private static void promises52And53ByLaw() {
        UncutTale none = told(1, 3, SIX);
        UncutTale once = told(12, 2, SIX + SIX_AT_ONCE);
        for (int law = 0; law < 4; law++) {
            DUE.is("52: none is opened", none.by(law), 0);
            DUE.is("52: all in YEAR 0", once.by(law), 360);
        }
        DUE.is("53: the least of several", none.law(), 0);
        DUE.is("53: the least of several", once.law(), 0);
        // 1 and 2 wait till YEAR 2: by LAW 0 each 2 * 4, by LAW 1 1 more a YEAR for 1, by LAW 2 12, by LAW 3 nothing
        UncutTale x = told(3, 1, "part charm 9 tires 4;part charm 20 tires 4;part charm 20 tires 4;fold 0 1;fold 1 2;"
            + "knife 0 at 0;knife 1 at 2;knife 2 at 2;");
        int[] by = {9 + 12 + 12, 9 + 10 + 12, 9 + 8 + 8, 9 + 20 + 20};
        for (int law = 0; law < 4; law++) {
            DUE.is("52: by LAW " + law, x.by(law), by[law]);
        }
        DUE.is("53: LAW 3", x.law(), 3);
        DUE.is("52: all() is as it was", x.all(), 31);
        UncutTale two = told(2, 2, "part charm 9 tires 0 stiff 1;knife 0 at 1;");
        DUE.is("53: LAWS 0, 1, 3 alike", two.law(), 0);
        UncutTale zero = told(1, 2, "");
        DUE.is("53: without PARTS", zero.law(), 0);
        DUE.is("52: without PARTS", zero.by(3), 0);
    }

    private static void promise54Blunt() {
        DUE.is("54: no KNIVES", told(1, 0, SIX).blunt(), -1);
        DUE.is("54: no PARTS", told(1, 0, "").blunt(), -1);
        DUE.is("54: less without", told(1, 0, SIXTY + "knife 0 at 0;").blunt(), -1);
        DUE.is("54: as much without", told(1, 0, SIXTY + "knife 0 at 0;knife 0 at 0;").blunt(), -1);
        DUE.is("54: as much without", told(1, 0, ZERO + "knife 0 at 0;").blunt(), -1);
        String stiff = "part charm 9 tires 0 stiff 9;part charm 9 tires 0 stiff 9;";
        UncutTale last = told(2, 0, stiff + "knife 1 at 0;knife 1 at 0;knife 1 at 0;knife 1 at 0;knife 1 at 0;knife 1 at 0;"
            + "knife 0 at 1;knife 0 at 0;");
        DUE.is("54: not aired", last.blunt(), -1);
        last.air(0, 1);
        DUE.is("54: the eighth", last.blunt(), 7);
        UncutTale several = told(2, 0, stiff + "knife 1 at 1;knife 0 at 1;knife 1 at 0;knife 0 at 0;");
        several.air(0, 1);
        several.air(1, 1);
        DUE.is("54: the first of several", several.blunt(), 2);
        several.rate(0, 0);
        several.anew();
        several.rate(0, 10);
        several.air(0, 1);
        several.air(1, 1);
        // 10 less 9 is READ now; without 3 it is 10: as much more as 9 is for 1
        DUE.is("54: the first of several", several.blunt(), 2);
        several.anew();
        several.rate(1, 8);
        several.air(0, 1);
        several.air(1, 1);
        DUE.is("54: the most, though it is not the first", several.blunt(), 3);
        UncutTale first = told(2, 0, stiff + "knife 0 at 0;knife 0 at 1;");
        first.air(0, 1);
        DUE.is("54: the first one", first.blunt(), 0);
        UncutTale act = told(2, 0, "part charm 9 tires 0 stiff 9;knife 0 at 1;");
        act.air(0, 1);
        act.knife(0, 0);
        DUE.is("54: one of an act is none that was told", act.blunt(), -1);
    }

    private static void promise55Slit() {
        DUE.is("55: no FOLDS", told(1, 0, SIX + SIX_AT_ONCE).slit(), -1);
        DUE.is("55: no PARTS", told(1, 0, "").slit(), -1);
        DUE.is("55: less without", told(1, 0, SIXTY + SIXTY + "fold 0 1;knife 0 at 0;").slit(), -1);
        DUE.is("55: as much without", told(1, 0, SIXTY + ZERO + "fold 0 1;knife 0 at 0;").slit(), -1);
        String nine = "fold 0 1;fold 0 2;fold 0 3;fold 0 4;fold 1 2;fold 1 3;fold 1 4;fold 2 3;fold 2 4;";
        UncutTale x = told(2, 0, ZERO + ZERO + ZERO + ZERO + ZERO + "part charm 60 tires 0 stiff 30;" + nine
            + "fold 5 0;knife 0 at 0;knife 5 at 1;");
        DUE.is("55: no sooner is no more", x.slit(), -1);
        x.air(5, 1);
        DUE.is("55: the tenth", x.slit(), 9);
        DUE.is("55: all() is as it was", x.all(), 30);
        // LAW 1: each fold to 0 makes 1 and 2 stiffer by 1
        String joined = ZERO + "part charm 9 tires 0;part charm 9 tires 0;" + ZERO + ZERO;
        String opened = "fold 0 2;fold 0 1;knife 0 at 0;knife 2 at 1;knife 1 at 1;";
        UncutTale several = told(2, 1, joined + "fold 1 3;fold 2 3;fold 1 4;fold 2 4;" + opened);
        DUE.is("55: all", several.all(), 16);
        DUE.is("55: the first of several", several.slit(), 4);
        // with but one more each, either of a PART's folds does: without it the PART opens sooner, or is not joined with 0
        DUE.is("55: the first of several", told(2, 1, joined + "fold 1 3;fold 2 3;" + opened).slit(), 0);
        // as if it were not told: without its one FOLD 1 has none that could be cut, and by LAW 3 it tires
        UncutTale alone = told(2, 3, ZERO + "part charm 9 tires 1;fold 0 1;knife 1 at 1;");
        DUE.is("55: less, for it tires alone", alone.slit(), -1);
        DUE.is("55: all", alone.all(), 9);
    }

    // ---- games ----

    private static void promises56To58UncleAndEar() {
        uncle("no PARTS", told(2, 0, ""), -1000, -1);
        UncutTale one = told(12, 0, "part charm 9 tires 0 stiff 2;");
        uncle("one: none is left", one, 7, 0);
        DUE.is("58: all are open", one.replies(0), -1);
        UncutTale last = told(1, 0, "part charm 9 tires 0;part charm 9 tires 0;");
        uncle("YEAR 1 is the last", last, 9, 0);
        DUE.is("58: YEAR 1 is the last", last.replies(0), -1);
        DUE.is("58: YEAR 1 is the last", last.replies(1), -1);
        UncutTale must = told(2, 0, "part charm 9 tires 0;part charm 9 tires 0 stiff 9;part charm 0 tires 0;");
        uncle("he must, for 0", must, 9, 0);
        DUE.is("58: the first PART of several, for 0", must.replies(0), 1);
        DUE.is("58: the best", must.replies(1), 0);
        UncutTale below = told(2, 0, "part charm 9 tires 0 stiff 9;part charm 9 tires 0 stiff 9;");
        below.air(0, 1);
        below.air(1, 1);
        uncle("below 0, too, the first PART of several", below, -9, 0);
        UncutTale most = told(2, 0, "part charm 0 tires 0;" + SIXTY + SIXTY + SIXTY + SIXTY + SIXTY
            + "fold 0 1;fold 0 2;fold 0 3;fold 0 4;fold 0 5;");
        uncle("300 at once", most, 300, 0);
        DUE.is("58: all are open", most.replies(0), -1);
        DUE.is("58: the EAR opens the middle", most.replies(5), 0);
        UncutTale least = told(2, 0, "part charm 60 tires 0 stiff 60;part charm 60 tires 0 stiff 60;part charm 60 tires 0 stiff 60;"
            + "part charm 60 tires 0 stiff 60;part charm 60 tires 0 stiff 60;part charm 0 tires 0;fold 0 1;fold 0 2;fold 0 3;fold 0 4;");
        for (int i = 0; i < 18; i++) {
            least.air(i % 3, 1);
        }
        // 0 opens 1 to 4 with it, for 0; then 5 is left
        uncle("nothing for nothing", least, 0, 0);
        // a ring of four, for 40 each in YEAR 1 alone: whichever he opens, the EAR opens the one across, and so all
        String forty = "part charm 40 tires 0 stiff 40;";
        UncutTale ring = told(2, 0, forty + forty + forty + forty + "fold 0 1;fold 1 2;fold 2 3;fold 3 0;");
        for (int i = 0; i < 16; i++) {
            ring.air(i % 4, 1);
        }
        uncle("he must, too, however ill it is for him", ring, -120, 0);
        for (int part = 0; part < 4; part++) {
            DUE.is("58: the one across", ring.replies(part), (part + 2) % 4);
        }
        uncle("the second PART", told(2, 0, ZERO + "part charm 9 tires 0;" + ZERO), 9, 1);
        UncutTale last6 = told(2, 0, "part charm 1 tires 0;part charm 2 tires 0;part charm 3 tires 0;part charm 4 tires 0;"
            + "part charm 5 tires 0;part charm 6 tires 0;");
        uncle("the last PART", last6, 6 - 5, 5);
        DUE.is("58: the best, not the first", last6.replies(5), 4);
        DUE.is("58: the best, not the first", last6.replies(0), 5);
        // 0 was opened; 3 for 5, or 1 for 4 and with it 2, whose other fold was cut by 0, for 2
        UncutTale two = told(2, 0, ZERO + "part charm 4 tires 0;part charm 2 tires 0;part charm 5 tires 0;fold 0 2;fold 2 1;");
        DUE.is("58: what opens of itself is READ, too", two.replies(0), 1);
        // KNIVES of YEARS 0 and 1 do not come
        UncutTale knives = told(3, 0, "part charm 9 tires 1;part charm 8 tires 1;part charm 7 tires 1;knife 0 at 0;knife 1 at 1;");
        knives.knife(2, 0);
        uncle("no KNIVES", knives, 9 - 7, 0);
        DUE.is("58: no KNIVES", knives.replies(0), 1);
        DUE.is("58: no KNIVES", knives.replies(2), 0);
    }

    private static void uncle(String what, UncutTale x, int worth, int opens) {
        DUE.is("56: " + what, x.uncle(), worth);
        DUE.is("57: " + what, x.opens(), opens);
    }

    private static void promises59And60Sewn() {
        // 1 and 2 open of themselves in YEAR 0, when 0 does; sewn they get 4
        int[] charm = {0, 3, 4, 5, 60};
        for (int a : charm) {
            for (int b : charm) {
                UncutTale x = told(1, 0, ZERO + "part charm " + a + " tires 0;part charm " + b + " tires 0;fold 0 1;fold 0 2;knife 0 at 0;");
                int rests = 0;
                for (int choice = 0; choice < 4; choice++) {
                    boolean content = (choice & 1) == 1 ? a <= 4 : a >= 4;
                    boolean otherContent = (choice & 2) == 2 ? b <= 4 : b >= 4;
                    rests |= content && otherContent ? 1 << choice : 0;
                }
                DUE.is("59: charm " + a + " and " + b, x.rests(1, 2), rests);
                DUE.is("60: not sewn", x.gets(1, 2, 0, 0), a);
                DUE.is("60: not sewn, the other one is", x.gets(1, 2, 0, 1), a);
                DUE.is("60: sewn", x.gets(1, 2, 1, 0), 4);
                DUE.is("60: both", x.gets(2, 1, 1, 1), 4);
            }
        }
        UncutTale x = told(2, 0, "part charm 9 tires 3;part charm 9 tires 3;part charm 9 tires 3;fold 0 1;knife 0 at 0;knife 1 at 1;");
        DUE.is("60: by a KNIFE it does", x.gets(0, 1, 1, 0), 13);
        DUE.is("60: of itself in YEAR 0", x.gets(1, 0, 0, 0), 9);
        DUE.is("60: by its KNIFE in YEAR 1", x.gets(1, 0, 1, 0), 6 + 4);
        DUE.is("60: not at all", x.gets(2, 0, 0, 0), 0);
        DUE.is("60: not at all, sewn", x.gets(2, 0, 1, 1), 4);
        DUE.is("59: both get more sewn", x.rests(0, 1), 8);
        DUE.is("59: both get more sewn", x.rests(2, 0), 8);
        DUE.is("60: the most", told(1, 0, SIX + SIX_AT_ONCE).gets(5, 0, 1, 0), 64);
        UncutTale order = told(1, 0, ZERO + "part charm 3 tires 0;part charm 5 tires 0;fold 0 1;fold 0 2;knife 0 at 0;");
        DUE.is("59: the first one is sewn", order.rests(1, 2), 2);
        DUE.is("59: the other one is sewn", order.rests(2, 1), 4);
        x.knife(2, 0);
        DUE.is("60: by a KNIFE of an act", x.gets(2, 0, 1, 0), 13);
    }

    // ---- chance ----

    private static void chance(String what, UncutTale x, int part, int above, int below) {
        DUE.is("61: " + what + ", above", x.chance(part, 0), above);
        DUE.is("61: " + what + ", below", x.chance(part, 1), below);
    }

    private static void promise61Chance() {
        chance("no KNIVES: 0 / 1", toldWithOdds(1, 0, 5, ZERO), 0, 0, 1);
        chance("odds 0: 0 / 1", toldWithOdds(1, 0, 0, ZERO + "knife 0 at 0;"), 0, 0, 1);
        chance("odds 10: 1 / 1", toldWithOdds(1, 0, 10, ZERO + "knife 0 at 0;"), 0, 1, 1);
        chance("odds 4: 2 / 5", toldWithOdds(1, 0, 4, ZERO + "knife 0 at 0;"), 0, 2, 5);
        chance("of a YEAR there is not", toldWithOdds(1, 0, 5, ZERO + "knife 0 at 1;knife 0 at 11;"), 0, 0, 1);
        chance("one that comes, two to no end", toldWithOdds(1, 0, 5, ZERO + "knife 0 at 1;knife 0 at 0;knife 0 at 11;"), 0, 1, 2);
        String eight = "knife 0 at 0;knife 0 at 0;knife 0 at 0;knife 0 at 0;knife 0 at 0;knife 0 at 0;knife 0 at 0;knife 0 at 0;";
        chance("1 less 0.1 to the 8th", toldWithOdds(1, 0, 9, ZERO + eight), 0, 99999999, 100000000);
        chance("1 less 0.9 to the 8th", toldWithOdds(1, 0, 1, ZERO + eight), 0, 100000000 - 43046721, 100000000);
        chance("1 less 0.5 to the 8th", toldWithOdds(1, 0, 5, ZERO + eight), 0, 255, 256);
        UncutTale star = toldWithOdds(1, 0, 5, STAR + "knife 1 at 0;knife 2 at 0;knife 3 at 0;knife 4 at 0;knife 5 at 0;");
        chance("of itself, if all five come", star, 0, 1, 32);
        chance("one of the five", star, 5, 1, 2);
        star.knife(5, 0);
        chance("one of an act is sure", star, 5, 1, 1);
        chance("of itself, if four come", star, 0, 1, 16);
        star.knife(0, 0);
        chance("all are sure", star, 3, 1, 1);
    }

    private static void mean(String what, UncutTale x, long above, long below) {
        DUE.is("62: " + what + ", above", x.mean(0), above);
        DUE.is("62: " + what + ", below", x.mean(1), below);
    }

    private static void promise62Mean() {
        mean("no PARTS: 0 / 1", toldWithOdds(1, 0, 5, ""), 0, 1);
        mean("odds 0: 0 / 1", toldWithOdds(1, 0, 0, SIX + SIX_AT_ONCE), 0, 1);
        mean("odds 10", toldWithOdds(1, 0, 10, SIX + SIX_AT_ONCE), 360, 1);
        mean("odds 5", toldWithOdds(1, 0, 5, SIX + SIX_AT_ONCE), 180, 1);
        mean("READ for 0", toldWithOdds(1, 0, 5, SIX_OF_0 + SIX_AT_ONCE), 0, 1);
        String eight = "knife 0 at 0;knife 0 at 0;knife 0 at 0;knife 0 at 0;knife 0 at 0;knife 0 at 0;knife 0 at 0;knife 0 at 0;";
        mean("more than an int holds", toldWithOdds(1, 0, 9, "part charm 59 tires 0;" + eight), 59L * 99999999L, 100000000L);
        UncutTale star = toldWithOdds(1, 0, 9, "part charm 59 tires 0;" + SIXTY + SIXTY + SIXTY + SIXTY + SIXTY
            + "fold 0 1;fold 0 2;fold 0 3;fold 0 4;fold 0 5;" + eight);
        mean("the most of an odd sum", star, 359L * 99999999L, 100000000L);
        // 8 in YEAR 1, 9 in YEAR 0: 9 / 10 * 9 + 1 / 10 * 9 / 10 * 8
        mean("the second, if the first comes not",
            toldWithOdds(2, 0, 9, "part charm 9 tires 1;knife 0 at 1;knife 0 at 0;"), 441, 50);
        UncutTale act = toldWithOdds(2, 0, 5, "part charm 9 tires 1;part charm 1 tires 0;knife 0 at 0;knife 1 at 11;");
        act.knife(0, 1);
        mean("one of an act is sure", act, 17, 2);
    }

    private static void promise67Drawn() {
        String lines = SIX + "knife 0 at 0;knife 1 at 0;knife 2 at 0;knife 3 at 0;knife 4 at 0;knife 5 at 0;knife 0 at 11;knife 0 at 1;";
        // draws of 0: 0 8 8 7 8 7 5 1; of 1: 8 8 3 5 1 7 0 9; of 2,000,000,000: 4 3 1 7 6 2 7 7
        int[] seeds = {0, 1, 2000000000};
        int[][] come = {{0, 1, 129, 129, 129, 129, 193, 193, 233, 255, 255}, {0, 64, 80, 80, 84, 84, 92, 92, 124, 127, 255},
            {0, 0, 4, 36, 38, 39, 39, 55, 255, 255, 255}};
        for (int odds = 0; odds <= 10; odds++) {
            UncutTale x = toldWithOdds(1, 0, odds, lines);
            UncutTale two = toldWithOdds(2, 0, odds, lines);
            for (int i = 0; i < 3; i++) {
                int open = come[i][odds] & 63;
                DUE.is("67: below odds " + odds, x.drawn(seeds[i], 0), come[i][odds]);
                DUE.is("67: those of YEARS there are not open nothing", x.drawn(seeds[i], 1), open);
                DUE.is("67: the eighth in YEAR 1", two.drawn(seeds[i], 1), open | come[i][odds] >> 7);
            }
        }
        UncutTale none = toldWithOdds(1, 0, 10, SIX);
        DUE.is("67: no KNIVES", none.drawn(0, 0), 0);
        DUE.is("67: no KNIVES", none.drawn(0, 1), 0);
        none.knife(5, 0);
        DUE.is("67: told ones alone", none.drawn(0, 0), 0);
        DUE.is("67: those of acts are sure", none.drawn(0, 1), 32);
        UncutTale empty = toldWithOdds(1, 0, 10, "");
        DUE.is("67: without PARTS", empty.drawn(2000000000, 1), 0);
        UncutTale pair = toldWithOdds(1, 0, 1, SIXTY + SIXTY + "fold 0 1;knife 0 at 0;");
        DUE.is("67: of itself, too", pair.drawn(0, 1), 3);
        DUE.is("67: it comes not", pair.drawn(1, 1), 0);
    }

    private static void promise68Luck() {
        // of one KNIFE of odds 5, from 0 on: 1, then 6 times not, 8 times, 5 times not
        UncutTale x = toldWithOdds(1, 0, 5, SIXTY + SIXTY + "knife 0 at 0;");
        int[] from0 = {1, 1, 1, 1, 1, 1, 1, 2, 3, 4, 5, 6, 7, 8, 9, 9, 9, 9, 9, 9};
        // from 2,000,000,000 on: 5 times, not, once, 6 times not, 7 times
        int[] fromMost = {1, 2, 3, 4, 5, 5, 6, 6, 6, 6, 6, 6, 6, 7, 8, 9, 10, 11, 12, 13};
        for (int n = 1; n <= 20; n++) {
            DUE.is("68: " + n + " from 0", x.luck(0, n, 0), from0[n - 1]);
            DUE.is("68: " + n + " from 2,000,000,000", x.luck(2000000000, n, 0), fromMost[n - 1]);
            DUE.is("68: one without a KNIFE", x.luck(0, n, 1), 0);
        }
        DUE.is("68: none", x.luck(0, 0, 0), -2);
        DUE.is("68: 21", x.luck(0, 21, 0), -2);
        DUE.is("68: odds 0", toldWithOdds(1, 0, 0, SIXTY + "knife 0 at 0;").luck(7, 20, 0), 0);
        DUE.is("68: odds 10", toldWithOdds(1, 0, 10, SIXTY + "knife 0 at 0;").luck(7, 20, 0), 20);
        x.knife(1, 0);
        DUE.is("68: one of an act is sure", x.luck(0, 20, 1), 20);
    }

    /** Each of these is the first call on its object, so that nothing was worked out for it ahead. */
    private static void askedFirst() {
        String lines = "part charm 9 tires 4 stiff 1;part charm 8 tires 0;part charm 7 tires 0;fold 0 1;knife 0 at 1;";
        DUE.is("43: first", told(2, 0, lines).plan(2), 8 + 8 + 7);
        DUE.is("44: first", told(2, 0, lines).planned(2, 0), 0);
        DUE.is("44: first", told(2, 0, lines).planned(2, 1), 2);
        DUE.is("45: first", told(2, 0, lines).plans(2), 2);
        DUE.is("56: first", told(2, 0, lines).uncle(), 16 - 7);
        DUE.is("57: first", told(2, 0, lines).opens(), 0);
        DUE.is("58: first", told(2, 0, lines).replies(2), 0);
        DUE.is("59: first", told(2, 0, lines).rests(0, 1), 2);
        DUE.is("61: first", told(2, 0, lines).chance(1, 1), 2);
        DUE.is("62: first", told(2, 0, lines).mean(1), 1);
        DUE.is("62: first", told(2, 0, lines).mean(0), 6);
        for (int call = 0; call < 5; call++) {
            UncutTale x = told(2, 0, lines);
            see(x, 0, 1, 5, 0, 2, 5);
            int[] due = {1, 1, 1, -1, 1};
            int got = call == 0 ? x.stiffs(0, 0) : call == 1 ? x.low(0, 0) : call == 2 ? x.high(0, 0)
                : call == 3 ? x.ask(0, 0) : x.leaves(0, 0);
            DUE.is("46 to 50: first, call " + call, got, due[call]);
            see(x, 0, 2, 99);
            int then = call == 0 ? x.stiffs(0, 0) : call == 1 ? x.low(0, 0) : call == 2 ? x.high(0, 0)
                : call == 3 ? x.ask(0, 0) : x.leaves(0, 0);
            DUE.is("46 to 50: of another row, call " + call, then, call == 0 || call == 4 ? 0 : -1);
        }
    }

    /** What is asked by the way leaves nothing behind: each "what if" is asked again behind every other one. */
    private static void askedInBetween() {
        UncutTale x = told(4, 1, "part charm 9 tires 1;part charm 8 tires 2;part charm 7 tires 3;part charm 6 tires 1;fold 0 1;fold 1 2;"
            + "knife 0 at 1;knife 2 at 2;knife 3 at 3;");
        x.air(1, 2);
        see(x, 0, 1, 6);
        long[] first = new long[20];
        for (int call = 0; call < first.length; call++) {
            first[call] = whatIf(x, call);
        }
        for (int call = 0; call < first.length; call++) {
            UncutTale fresh = told(4, 1, "part charm 9 tires 1;part charm 8 tires 2;part charm 7 tires 3;part charm 6 tires 1;"
                + "fold 0 1;fold 1 2;knife 0 at 1;knife 2 at 2;knife 3 at 3;");
            fresh.air(1, 2);
            see(fresh, 0, 1, 6);
            DUE.is("first of all, call " + call, whatIf(fresh, call), first[call]);
            for (int other = 0; other < first.length; other++) {
                whatIf(x, other);
                DUE.is("call " + call + " behind call " + other, whatIf(x, call), first[call]);
            }
        }
    }

    private static long whatIf(UncutTale x, int call) {
        switch (call) {
            case 0: return x.all();
            case 1: return x.worth(5);
            case 2: return x.share(1, 0);
            case 3: return x.fews();
            case 4: return x.plan(3);
            case 5: return x.plans(2);
            case 6: return x.stiffs(0, 0);
            case 7: return x.laws(0);
            case 8: return x.by(3);
            case 9: return x.law();
            case 10: return x.blunt();
            case 11: return x.slit();
            case 12: return x.uncle();
            case 13: return x.replies(0);
            case 14: return x.rests(1, 2);
            case 15: return x.gets(1, 0, 1, 1);
            case 16: return x.chance(1, 0);
            case 17: return x.mean(0);
            case 18: return x.drawn(4, 1);
            default: return x.luck(0, 20, 1);
        }
    }
}
