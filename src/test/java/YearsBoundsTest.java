/** The edges of promises 9 to 36 and 38 and of Terms II and III, each worked out by hand. */
public final class YearsBoundsTest {
    private static final Due DUE = new Due();
    private static final String SIX = "part charm 60 tires 0;part charm 60 tires 0;part charm 60 tires 0;"
        + "part charm 60 tires 0;part charm 60 tires 0;part charm 60 tires 0;";
    private static final String SIX_AT_ONCE = "knife 0 at 0;knife 1 at 0;knife 2 at 0;knife 3 at 0;knife 4 at 0;knife 5 at 0;";

    public static void main(String[] args) {
        lawsAt99();
        laws();
        airedToNothing();
        airedAndOpened();
        knivesAheadOfThemselves();
        promise9Stiff();
        promise10Open();
        promises11And12WhenHow();
        promises13To15Read();
        promises16And17KeepsWaits();
        promise18Next();
        promises19And20DullDies();
        promise21Ages();
        promise22Cut();
        promises23And38SharpIdle();
        promises24And25And28UncutDoneCharms();
        promise26Rush();
        promise27With();
        promise29Best();
        promises30To32PeakFirstQuiet();
        promises33And34LoneStalest();
        promise36Lost();
        withoutParts();
        DUE.end();
    }

    private static UncutTale told(int years, int law, String lines) {
        return Due.told("tale years " + years + " law " + law + " odds 5;" + lines);
    }

    private static void stiffs(String what, UncutTale x, int part, int... due) {
        for (int year = 0; year < due.length; year++) {
            DUE.is(what + ", PART " + part + " in YEAR " + year, x.stiff(part, year), due[year]);
        }
    }

    // ---- III: how STIFF ----

    private static void lawsAt99() {
        stiffs("law 0: 99 at most", told(6, 0, "part charm 0 tires 9 stiff 60;"), 0, 60, 69, 78, 87, 96, 99, 99);
        stiffs("law 0: 99 and no more", told(7, 0, "part charm 0 tires 7 stiff 57;"), 0, 57, 64, 71, 78, 85, 92, 99, 99);
        String star = "part charm 0 tires 9 stiff 60;part charm 0 tires 0;part charm 0 tires 0;part charm 0 tires 0;"
            + "part charm 0 tires 0;part charm 0 tires 0;fold 0 1;fold 0 2;fold 0 3;fold 0 4;fold 0 5;";
        String four = "knife 1 at 0;knife 2 at 0;knife 3 at 0;knife 4 at 0;";
        stiffs("law 1: 99 and no more", told(5, 1, star + four), 0, 60, 73, 86, 99, 99, 99);
        String three = "knife 1 at 0;knife 2 at 0;knife 3 at 0;";
        stiffs("law 1: 99 at most", told(5, 1, star + three), 0, 60, 72, 84, 96, 99, 99);
        stiffs("law 2: 99 and no more", told(2, 2, "part charm 0 tires 9 stiff 45;"), 0, 45, 99, 99);
        stiffs("law 2: 98", told(2, 2, "part charm 0 tires 8 stiff 45;"), 0, 45, 98, 99);
        stiffs("law 2: 100 is 99", told(2, 2, "part charm 0 tires 8 stiff 46;"), 0, 46, 99, 99);
        stiffs("law 2: twice 60 is 99", told(2, 2, "part charm 0 tires 0 stiff 60;"), 0, 60, 99, 99);
        stiffs("law 3: 99 at most", told(5, 3, "part charm 0 tires 9 stiff 60;"), 0, 60, 69, 78, 87, 96, 99);
    }

    private static void laws() {
        for (int law = 0; law < 4; law++) {
            stiffs("tires 0, law " + law, told(3, law, "part charm 0 tires 0;"), 0, 0, 0, 0, 0);
            stiffs("one alone, law " + law, told(1, law, "part charm 0 tires 5;"), 0, 0, 5);
        }
        // 0 opens in YEAR 0: 1 has an open NEIGHBOUR at the end of that YEAR, 2 has none ever
        String row = "part charm 9 tires 2;part charm 9 tires 2;part charm 9 tires 2;fold 0 1;fold 1 2;knife 0 at 0;";
        stiffs("law 1: 1 more for each open NEIGHBOUR", told(3, 1, row), 1, 0, 3, 6, 9);
        stiffs("law 1: none is open", told(3, 1, row), 2, 0, 2, 4, 6);
        stiffs("law 2", told(3, 2, row), 1, 0, 2, 6, 14);
        stiffs("law 3: a NEIGHBOUR is shut", told(3, 3, row), 1, 0, 0, 0, 0);
        // all at once: 0 and 1 open in YEAR 0, and 2 in YEAR 1, when it tired by two open ones
        String all = "part charm 9 tires 1;part charm 9 tires 1;part charm 9 tires 1;part charm 9 tires 1;fold 2 0;fold 2 1;"
            + "fold 2 3;knife 0 at 0;knife 1 at 0;knife 2 at 1;";
        UncutTale x = told(3, 1, all);
        stiffs("law 1: two at once", x, 2, 0, 3, 3, 3);
        stiffs("law 1: of itself in YEAR 1", x, 3, 0, 1, 1, 1);
        DUE.is("law 1: of itself", x.how(3), 2);
        // by law 3 a PART with NEIGHBOURS never tires: when the last of them opens it opens of itself
        UncutTale y = told(3, 3, "part charm 9 tires 9;part charm 9 tires 9;fold 0 1;knife 0 at 2;");
        stiffs("law 3: a NEIGHBOUR is shut", y, 0, 0, 0, 0, 0);
        stiffs("law 3: a NEIGHBOUR is shut", y, 1, 0, 0, 0, 0);
        DUE.is("law 3", y.all(), 18);
    }

    private static void airedToNothing() {
        for (int told = 8; told <= 12; told++) {
            UncutTale x = told(2, 0, "part charm 60 tires 0 stiff " + told + ";");
            DUE.is("less by 10, 0 at least", x.air(0, 0), Math.max(0, told - 10));
            stiffs("less by 10, 0 at least", x, 0, told, Math.max(0, told - 10));
        }
        UncutTale none = told(2, 0, "part charm 60 tires 3;");
        DUE.is("of 0 is 0, and tires then", none.air(0, 0), 6);
        UncutTale twice = told(2, 2, "part charm 60 tires 1 stiff 15;");
        twice.air(0, 0);
        DUE.is("15, 5, 0: not -5", twice.air(0, 0), 3);
        stiffs("15, 5, 0: not -5", twice, 0, 15, 1, 3);
        UncutTale full = told(12, 0, "part charm 60 tires 9 stiff 60;");
        DUE.is("aired in the YEAR ahead of the last, from 99", full.air(0, 11), 98);
        full.anew();
        DUE.is("99 in YEAR 5, aired then", full.air(0, 5), 99);
        stiffs("99 in YEAR 5, aired then", full, 0, 60, 69, 78, 87, 96, 99, 98, 99);
    }

    private static void airedAndOpened() {
        UncutTale x = told(3, 0, "part charm 60 tires 5 stiff 25;knife 0 at 1;");
        stiffs("as when it was opened", x, 0, 25, 30, 30, 30);
        DUE.is("in the YEAR of its opening: ahead of the KNIFE", x.air(0, 1), 20);
        stiffs("behind airing of that YEAR", x, 0, 25, 30, 20, 20);
        DUE.is("READ behind airing", x.read(0), 40);
        DUE.is("an open one is as it was", x.air(0, 2), 20);
        DUE.is("an open one is as it was", x.read(0), 40);
        DUE.is("ahead of it", x.air(0, 0), 10);
        stiffs("aired twice", x, 0, 25, 20, 10, 10);
        UncutTale self = told(2, 0, "part charm 60 tires 5 stiff 25;part charm 0 tires 0;fold 0 1;knife 1 at 0;");
        DUE.is("one that opens of itself", self.air(0, 0), 15);
        DUE.is("one that opens of itself", self.read(0), 45);
    }

    // ---- III: what opens ----

    private static void knivesAheadOfThemselves() {
        // both ends of a fold have a KNIFE in YEAR 0: none is left to open of itself, in whatever order they come
        for (String knives : new String[] {"knife 0 at 0;knife 1 at 0;", "knife 1 at 0;knife 0 at 0;"}) {
            UncutTale x = told(1, 0, "part charm 9 tires 0;part charm 9 tires 0;fold 0 1;" + knives);
            DUE.is("behind all KNIVES of the YEAR", x.how(0), 1);
            DUE.is("behind all KNIVES of the YEAR", x.how(1), 1);
            DUE.is("both open something", x.sharp(), 3);
            DUE.is("none opens of itself", x.with(0), 0);
        }
        UncutTale act = told(1, 0, "part charm 9 tires 0;part charm 9 tires 0;fold 0 1;knife 0 at 0;");
        act.knife(1, 0);
        DUE.is("KNIVES of acts, too, come ahead of what opens of itself", act.how(1), 1);
        DUE.is("KNIVES of acts, too, come ahead of what opens of itself", act.sharp(), 3);
        UncutTale late = told(2, 0, "part charm 9 tires 0;part charm 9 tires 0;fold 0 1;knife 0 at 0;knife 1 at 1;");
        DUE.is("it was open ahead of its KNIFE", late.how(1), 2);
        DUE.is("it was open ahead of its KNIFE", late.sharp(), 1);
        // without FOLDS none opens of itself
        UncutTale alone = told(2, 0, "part charm 9 tires 0;part charm 9 tires 0;knife 0 at 0;");
        DUE.is("one at least", alone.when(1), -1);
        // all of its folds but one
        UncutTale one = told(2, 0, "part charm 9 tires 0;part charm 9 tires 0;part charm 9 tires 0;fold 0 1;fold 0 2;knife 1 at 0;");
        DUE.is("all of them", one.when(0), -1);
        // a row of six: 1 and 4 open 0 and 5, not 2 and 3, whose fold is not cut
        UncutTale row = told(2, 0, SIX + "fold 0 1;fold 1 2;fold 2 3;fold 3 4;fold 4 5;knife 1 at 0;knife 4 at 0;");
        DUE.is("not those between", row.open(1), 1 | 2 | 16 | 32);
        DUE.is("not those between", row.cut(1), 1 | 2 | 8 | 16);
        DUE.is("nor later", row.open(2), 1 | 2 | 16 | 32);
        // a KNIFE at 11 has a YEAR in twelve, none in eleven
        DUE.is("at 11 of 12 years", told(12, 0, "part charm 9 tires 0;knife 0 at 11;").when(0), 11);
        DUE.is("at 11 of 11 years", told(11, 0, "part charm 9 tires 0;knife 0 at 11;").when(0), -1);
        DUE.is("at 11 of 1 year", told(1, 0, "part charm 9 tires 0;knife 0 at 11;").when(0), -1);
    }

    // ---- promise by promise ----

    private static void promise9Stiff() {
        UncutTale x = told(12, 0, "part charm 60 tires 1 stiff 1;part charm 60 tires 1;knife 1 at 0;");
        DUE.is("9: as told in YEAR 0", x.stiff(0, 0), 1);
        DUE.is("9: in the last one", x.stiff(0, 12), 13);
        DUE.is("9: not told", x.stiff(1, 0), 0);
        DUE.is("9: an open one, opened in YEAR 0", x.stiff(1, 12), 0);
        DUE.is("9: behind the last one", x.stiff(0, 13), -2);
    }

    private static void promise10Open() {
        UncutTale x = told(1, 0, SIX + SIX_AT_ONCE);
        DUE.is("10: in YEAR 0 all are shut", x.open(0), 0);
        DUE.is("10: all are open in the last one", x.open(1), 63);
        DUE.is("10: none", told(12, 0, SIX).open(12), 0);
    }

    private static void promises11And12WhenHow() {
        UncutTale x = told(3, 0, "part charm 9 tires 0;part charm 9 tires 0;part charm 9 tires 0;part charm 9 tires 0;fold 0 1;"
            + "knife 0 at 0;knife 2 at 2;knife 3 at 3;");
        int[] when = {0, 0, 2, -1};
        int[] how = {1, 2, 1, 0};
        for (int part = 0; part < 4; part++) {
            DUE.is("11: PART " + part, x.when(part), when[part]);
            DUE.is("12: PART " + part, x.how(part), how[part]);
        }
    }

    private static void promises13To15Read() {
        UncutTale changed = told(2, 0, "part charm 9 tires 1;part charm 9 tires 1;fold 0 1;knife 0 at 1;");
        DUE.is("12: of itself", changed.how(1), 2);
        changed.knife(1, 0);
        DUE.is("12: by a KNIFE now", changed.how(1), 1);
        DUE.is("12: of itself now", changed.how(0), 2);
        changed.undo();
        DUE.is("12: of itself again", changed.how(1), 2);
        UncutTale x = told(2, 0, "part charm 5 tires 0 stiff 4;part charm 5 tires 0 stiff 5;part charm 5 tires 0 stiff 6;"
            + "part charm 0 tires 0;part charm 60 tires 0;part charm 60 tires 0;knife 0 at 0;knife 1 at 0;knife 2 at 0;"
            + "knife 3 at 0;knife 4 at 1;");
        int[] read = {1, 0, 0, 0, 60, -1};
        for (int part = 0; part < 6; part++) {
            DUE.is("13: 0 at least, PART " + part, x.read(part), read[part]);
        }
        DUE.is("14: together", x.reads(0), 1);
        DUE.is("14: in the YEAR ahead of the last", x.reads(1), 60);
        DUE.is("14: not in the last", x.reads(2), -2);
        DUE.is("15: together", x.all(), 61);
        UncutTale most = told(1, 0, SIX + SIX_AT_ONCE);
        DUE.is("14: the most", most.reads(0), 360);
        DUE.is("15: the most", most.all(), 360);
        UncutTale none = told(2, 0, SIX);
        DUE.is("14: none is opened", none.reads(0), 0);
        DUE.is("15: none is opened", none.all(), 0);
    }

    private static void promises16And17KeepsWaits() {
        UncutTale x = told(2, 0, "part charm 9 tires 4 stiff 1;part charm 9 tires 4;knife 1 at 1;");
        int[] keeps = {8, 4, 0};
        for (int year = 0; year < 3; year++) {
            DUE.is("16: the last one, too", x.keeps(0, year), keeps[year]);
        }
        DUE.is("16: it is shut in the YEAR of its opening", x.keeps(1, 1), 5);
        DUE.is("16: it is open then", x.keeps(1, 2), -1);
        DUE.is("17: open ones aside", x.waits(2), 0);
        DUE.is("17: of both", x.waits(1), 9);
        x.air(0, 1);
        DUE.is("16: airing of it aside", x.keeps(0, 1), 4);
        DUE.is("16: but it is less STIFF in the next", x.keeps(0, 2), 5);
        DUE.is("17: airing of it aside", x.waits(1), 9);
        DUE.is("17: in the last one", x.waits(2), 5);
        UncutTale stiff = told(1, 0, "part charm 9 tires 0 stiff 60;part charm 1 tires 0;");
        DUE.is("16: 0 at least", stiff.keeps(0, 0), 0);
        DUE.is("17: none is below 0", stiff.waits(0), 1);
        DUE.is("17: the most", told(1, 0, SIX).waits(1), 360);
        DUE.is("17: all are open", told(1, 0, SIX + SIX_AT_ONCE).waits(1), 0);
    }

    private static void promise18Next() {
        UncutTale x = told(2, 0, "part charm 0 tires 0;part charm 7 tires 1;part charm 7 tires 1;part charm 6 tires 0;knife 1 at 0;");
        DUE.is("18: the first of several", x.next(0), 1);
        DUE.is("18: an open one is none", x.next(1), 2);
        DUE.is("18: 6 less 0 is more than 7 less 2", x.next(2), 3);
        UncutTale dull = told(2, 0, "part charm 9 tires 0;part charm 1 tires 0 stiff 9;part charm 0 tires 0;knife 0 at 0;");
        DUE.is("18: all would be READ for 0", dull.next(1), 1);
        DUE.is("18: in the last one, too", dull.next(2), 1);
        DUE.is("18: none is shut", told(1, 0, SIX + SIX_AT_ONCE).next(1), -1);
        DUE.is("18: the last PART", told(1, 0, "part charm 1 tires 0;part charm 2 tires 0;").next(0), 1);
        DUE.is("18: the first PART", told(1, 0, "part charm 2 tires 0;part charm 1 tires 0;").next(0), 0);
    }

    private static void promises19And20DullDies() {
        UncutTale x = told(3, 0, "part charm 0 tires 0;part charm 6 tires 3;part charm 7 tires 3;part charm 9 tires 3;"
            + "part charm 6 tires 3;part charm 5 tires 0 stiff 6;knife 0 at 0;knife 4 at 2;knife 5 at 1;");
        int[] dull = {1 | 32, 32, 2 | 16, 2 | 4 | 8};
        for (int year = 0; year < 4; year++) {
            DUE.is("19: in YEAR " + year, x.dull(year), dull[year]);
        }
        int[] dies = {0, 2, 3, 3, 2, 0};
        for (int part = 0; part < 6; part++) {
            DUE.is("20: PART " + part, x.dies(part), dies[part]);
        }
        UncutTale sooner = told(3, 0, "part charm 6 tires 3;part charm 7 tires 2;knife 0 at 1;");
        DUE.is("20: it is opened a YEAR sooner", sooner.dies(0), -1);
        DUE.is("20: 1 is left in the last one", sooner.dies(1), -1);
        DUE.is("19: open ones are not dull", sooner.dull(3), 0);
        UncutTale again = told(3, 0, "part charm 6 tires 6;");
        again.air(0, 1);
        DUE.is("19: dull in YEAR 1", again.dull(1), 1);
        DUE.is("19: 6 again in YEAR 2", again.dull(2), 1);
        again.air(0, 1);
        DUE.is("20: the first one", again.dies(0), 1);
        UncutTale aired = told(2, 0, "part charm 6 tires 0 stiff 6;");
        aired.air(0, 0);
        DUE.is("20: airing of it aside", aired.dies(0), 0);
        DUE.is("19: no more in the next", aired.dull(1), 0);
    }

    private static void promise21Ages() {
        UncutTale x = told(1, 0, "part charm 0 tires 0 stiff 60;part charm 0 tires 0 stiff 60;part charm 0 tires 9;");
        for (int i = 0; i < 6; i++) {
            x.air(0, 0);
        }
        for (int i = 0; i < 7; i++) {
            x.air(1, 0);
        }
        DUE.is("21: -60", x.ages(0), -60);
        DUE.is("21: not below -60", x.ages(1), -60);
        DUE.is("21: stiffer", x.ages(2), 9);
        DUE.is("21: there is none such", x.ages(3), -100);
        DUE.is("21: the most", told(12, 0, "part charm 0 tires 9;").ages(0), 99);
        DUE.is("21: by law 2", told(12, 2, "part charm 0 tires 1;").ages(0), 99);
        DUE.is("21: an open one", told(12, 0, "part charm 0 tires 9;knife 0 at 1;").ages(0), 9);
        DUE.is("21: as it was", told(12, 0, "part charm 0 tires 9 stiff 5;knife 0 at 0;").ages(0), 0);
    }

    private static void promise22Cut() {
        String ten = "fold 0 1;fold 0 2;fold 0 3;fold 0 4;fold 0 5;fold 1 2;fold 1 3;fold 1 4;fold 1 5;fold 2 3;";
        UncutTale x = told(3, 0, SIX + ten + "knife 0 at 0;knife 1 at 1;knife 2 at 3;");
        DUE.is("22: in YEAR 0 none is", x.cut(0), 0);
        DUE.is("22: ahead of YEAR 1", x.cut(1), 31);
        // 4 and 5 have no folds but those of 0 and 1, and open of themselves; 2 and 3 have one more
        DUE.is("22: ahead of YEAR 2", x.cut(2), 511);
        DUE.is("22: ahead of the last one", x.cut(3), 511);
        DUE.is("22: what opened", x.open(3), 1 | 2 | 16 | 32);
        x.knife(3, 2);
        DUE.is("22: to the tenth", x.cut(3), 1023);
        DUE.is("22: not sooner", x.cut(2), 511);
        DUE.is("22: no FOLDS", told(1, 0, SIX + SIX_AT_ONCE).cut(1), 0);
    }

    private static void promises23And38SharpIdle() {
        UncutTale x = told(2, 0, "part charm 9 tires 0;part charm 9 tires 0;part charm 9 tires 0;part charm 9 tires 0;fold 1 2;"
            + "knife 0 at 0;knife 0 at 0;knife 0 at 1;knife 1 at 0;knife 2 at 1;knife 3 at 2;knife 3 at 11;knife 3 at 1;");
        DUE.is("23: the first of one YEAR, to the eighth", x.sharp(), 1 | 8 | 128);
        DUE.is("38: the second, a later one, one that came too late", x.idle(), 2 | 4 | 16);
        for (int i = 0; i < 19; i++) {
            x.knife(0, i % 2);
        }
        DUE.is("23: those of acts open nothing", x.sharp(), 1 | 8 | 128);
        DUE.is("23: the 28th KNIFE", x.knife(3, 0), 36);
        DUE.is("23: the 28th KNIFE", x.sharp(), 1 | 8 | 1 << 27);
        DUE.is("38: told ones alone", x.idle(), 2 | 4 | 16 | 128);
        UncutTale first = told(2, 0, "part charm 9 tires 0;knife 0 at 1;knife 0 at 0;");
        DUE.is("23: the sooner one, though it stands behind", first.sharp(), 2);
        DUE.is("38: the first one", first.idle(), 1);
        UncutTale acts = told(2, 0, "part charm 9 tires 0;part charm 9 tires 0;");
        acts.knife(0, 0);
        acts.knife(1, 0);
        acts.knife(0, 0);
        acts.knife(1, 0);
        DUE.is("23: of acts, too, the first of one YEAR", acts.sharp(), 3);
        UncutTale none = told(2, 0, SIX);
        DUE.is("23: no KNIVES", none.sharp(), 0);
        DUE.is("38: no KNIVES", none.idle(), 0);
        UncutTale late = told(1, 0, "part charm 9 tires 0;knife 0 at 1;knife 0 at 11;");
        DUE.is("23: of the last YEAR, and of none", late.sharp(), 0);
        DUE.is("38: of the last YEAR, and of none", late.idle(), 0);
        late.air(0, 0);
        DUE.is("23: an airing is no KNIFE", late.knife(0, 0), 9);
        DUE.is("23: an airing has no number", late.sharp(), 4);
    }

    private static void promises24And25And28UncutDoneCharms() {
        UncutTale none = told(3, 0, SIX);
        DUE.is("24: all", none.uncut(), 63);
        DUE.is("25: in none", none.done(), -1);
        DUE.is("28: the most", none.charms(), 360);
        UncutTale most = told(3, 0, SIX + "knife 0 at 0;knife 1 at 0;knife 2 at 0;knife 3 at 0;knife 4 at 0;");
        DUE.is("24: one", most.uncut(), 32);
        DUE.is("25: one is shut", most.done(), -1);
        DUE.is("28: of one", most.charms(), 60);
        most.knife(5, 2);
        DUE.is("24: none", most.uncut(), 0);
        DUE.is("25: in the last one", most.done(), 3);
        DUE.is("28: none", most.charms(), 0);
        most.knife(5, 0);
        DUE.is("25: at soonest", most.done(), 1);
        UncutTale last = told(3, 0, "part charm 9 tires 0;knife 0 at 3;");
        DUE.is("24: a KNIFE of the last one comes not", last.uncut(), 1);
        DUE.is("25: a KNIFE of the last one comes not", last.done(), -1);
        DUE.is("28: as told, however STIFF", told(3, 0, "part charm 9 tires 9 stiff 60;").charms(), 9);
        DUE.is("25: there is one", told(3, 0, "").done(), -1);
        DUE.is("25: one alone", told(3, 0, "part charm 9 tires 0;knife 0 at 0;").done(), 1);
    }

    private static void promise26Rush() {
        DUE.is("26: none", told(3, 0, SIX).rush(), 0);
        DUE.is("26: all", told(1, 0, SIX + SIX_AT_ONCE).rush(), 6);
        DUE.is("26: of the YEAR ahead of the last",
            told(2, 0, SIX + "knife 0 at 0;knife 1 at 1;knife 2 at 1;knife 2 at 0;knife 3 at 1;knife 4 at 1;").rush(), 3);
        DUE.is("26: those that open of themselves, too",
            told(1, 0, SIX + "fold 0 1;fold 0 2;fold 0 3;fold 0 4;fold 0 5;knife 0 at 0;").rush(), 6);
    }

    private static void promise27With() {
        UncutTale x = told(3, 0, SIX + "fold 0 1;fold 2 3;knife 0 at 0;knife 2 at 1;knife 4 at 1;");
        int[] with = {2, 2, 8, 8, 8, 0};
        for (int part = 0; part < 6; part++) {
            DUE.is("27: it, too; none, if it is not opened: PART " + part, x.with(part), with[part]);
        }
        UncutTale star = told(1, 0, SIX + "fold 0 1;fold 0 2;fold 0 3;fold 0 4;fold 0 5;knife 0 at 0;");
        DUE.is("27: the most", star.with(0), 62);
        DUE.is("27: it, too", star.with(5), 62);
    }

    private static void promise29Best() {
        UncutTale x = told(2, 0, "part charm 9 tires 0 stiff 9;part charm 9 tires 0 stiff 9;part charm 9 tires 0 stiff 9;"
            + "part charm 9 tires 0 stiff 60;knife 0 at 0;knife 1 at 1;");
        for (int part = 0; part < 3; part++) {
            x.air(part, part == 0 ? 0 : 1);
        }
        DUE.is("29: airing of it aside", x.best(0), 0);
        DUE.is("13: though it is READ for more", x.read(0), 9);
        DUE.is("29: airing of it aside", x.best(1), 0);
        DUE.is("29: in the last one, too", x.best(2), 9);
        DUE.is("29: 0 at least", x.best(3), 0);
        DUE.is("29: the most", told(12, 0, "part charm 60 tires 9;").best(0), 60);
        UncutTale mid = told(3, 0, "part charm 20 tires 8 stiff 18;");
        mid.air(0, 0);
        mid.air(0, 0);
        DUE.is("29: in YEAR 1", mid.best(0), 12);
    }

    private static void promises30To32PeakFirstQuiet() {
        UncutTale none = told(12, 0, SIX);
        DUE.is("30: nothing is READ", none.peak(), 0);
        DUE.is("31: in none", none.first(), -1);
        DUE.is("32: in all", none.quiet(), 12);
        UncutTale last = told(12, 0, SIX + "knife 0 at 11;");
        DUE.is("30: the YEAR ahead of the last", last.peak(), 11);
        DUE.is("31: the YEAR ahead of the last", last.first(), 11);
        DUE.is("32: in all but one", last.quiet(), 11);
        UncutTale even = told(3, 0, SIX + "knife 0 at 1;knife 1 at 2;");
        DUE.is("30: the first of several", even.peak(), 1);
        DUE.is("31: the first one", even.first(), 1);
        DUE.is("32: YEAR 0", even.quiet(), 1);
        UncutTale nothing = told(2, 0, "part charm 0 tires 0;knife 0 at 1;");
        DUE.is("30: READ for 0 is no more than nothing", nothing.peak(), 0);
        DUE.is("31: READ for 0 is opened, too", nothing.first(), 1);
        DUE.is("32: READ for 0 is opened, too", nothing.quiet(), 1);
        UncutTale one = told(1, 0, "part charm 9 tires 0;knife 0 at 0;");
        DUE.is("31: YEAR 0", one.first(), 0);
        DUE.is("32: in none", one.quiet(), 0);
    }

    private static void promises33And34LoneStalest() {
        UncutTale x = told(2, 0, "part charm 9 tires 0;part charm 9 tires 0;part charm 9 tires 0;fold 0 1;knife 0 at 0;");
        for (int year = 0; year < 3; year++) {
            DUE.is("33: what is lone opened of itself; one without NEIGHBOURS is not", x.lone(year), 0);
        }
        UncutTale half = told(2, 0, "part charm 9 tires 0;part charm 9 tires 0;part charm 9 tires 0;fold 0 1;fold 0 2;knife 2 at 0;");
        DUE.is("33: one NEIGHBOUR is shut", half.lone(1), 0);
        half.knife(1, 1);
        DUE.is("33: none is shut", half.lone(2), 0);
        UncutTale other = told(2, 0, "part charm 9 tires 0;part charm 9 tires 0;part charm 9 tires 0;fold 0 1;fold 0 2;knife 1 at 0;");
        DUE.is("33: one NEIGHBOUR is shut", other.lone(1), 0);
        DUE.is("34: all are 0 STIFF", x.stalest(0), 0);
        DUE.is("34: an open one is none", x.stalest(1), 2);
        UncutTale y = told(3, 0, "part charm 9 tires 0 stiff 60;part charm 9 tires 5;part charm 9 tires 5;knife 0 at 1;");
        DUE.is("34: it is shut in the YEAR of its opening", y.stalest(1), 0);
        DUE.is("34: the first of several", y.stalest(2), 1);
        DUE.is("34: in the last one", y.stalest(3), 1);
        DUE.is("34: none is shut", told(1, 0, SIX + SIX_AT_ONCE).stalest(1), -1);
        DUE.is("34: two of 99", told(12, 0, "part charm 0 tires 8 stiff 60;part charm 0 tires 9 stiff 60;").stalest(12), 0);
        DUE.is("34: the last PART", told(1, 0, "part charm 0 tires 0;part charm 0 tires 1;").stalest(1), 1);
    }

    private static void promise36Lost() {
        UncutTale x = told(2, 0, "part charm 9 tires 0 stiff 4;part charm 5 tires 0 stiff 60;part charm 9 tires 0 stiff 4;"
            + "part charm 9 tires 0;knife 0 at 0;knife 1 at 0;knife 3 at 0;");
        DUE.is("36: no more than charm; none of those that stay shut", x.lost(), 4 + 5);
        DUE.is("36: none is opened", told(2, 0, SIX).lost(), 0);
        DUE.is("36: nothing is lost", told(1, 0, SIX + SIX_AT_ONCE).lost(), 0);
        DUE.is("36: the most of one", told(1, 0, "part charm 60 tires 0 stiff 60;knife 0 at 0;").lost(), 60);
    }

    private static void withoutParts() {
        UncutTale x = told(12, 3, "");
        for (int year = 0; year <= 12; year++) {
            DUE.is("10: of none", x.open(year), 0);
            DUE.is("14: of none", x.reads(year), year == 12 ? -2 : 0);
            DUE.is("17: of none", x.waits(year), 0);
            DUE.is("18: none is shut", x.next(year), -1);
            DUE.is("19: of none", x.dull(year), 0);
            DUE.is("22: of none", x.cut(year), 0);
            DUE.is("33: of none", x.lone(year), 0);
            DUE.is("34: none is shut", x.stalest(year), -1);
        }
        int[] due = {x.all(), 0, x.sharp(), 0, x.uncut(), 0, x.done(), -1, x.rush(), 0, x.charms(), 0, x.peak(), 0, x.first(), -1,
            x.quiet(), 12, x.lost(), 0, x.idle(), 0};
        for (int i = 0; i < due.length; i += 2) {
            DUE.is("without PARTS, call " + i / 2, due[i], due[i + 1]);
        }
    }
}
