/** The edges of promises 63 to 66, 69, 71 and 72, each worked out by hand. */
public final class ActsBoundsTest {
    private static final Due DUE = new Due();
    private static final String TWO = "tale years 3 law 0 odds 5;part charm 30 tires 2 stiff 25;part charm 20 tires 3;knife 1 at 1;";

    public static void main(String[] args) {
        promise63Knife();
        promise64Air();
        twentyActs();
        promises65And66UndoAnew();
        promise69Rate();
        promise71Image();
        promise72Back();
        imagesWithoutTale();
        answersAfterAChange();
        smallerBehindLarger();
        DUE.end();
    }

    private static void promise63Knife() {
        UncutTale x = Due.told(TWO);
        DUE.is("63: in the YEAR ahead of the last", x.knife(0, 2), 1 + 17);
        DUE.is("63: of an open one: nothing", x.knife(0, 2), 18);
        DUE.is("63: but an act it is", x.count(6), 2);
        DUE.is("63: in YEAR 0", x.knife(0, 0), 5 + 17);
        DUE.is("63: the last YEAR is none", x.knife(0, 3), -2);
        DUE.is("63: none such", x.knife(2, 0), -2);
        DUE.is("63: sooner than the one told", x.knife(1, 0), 5 + 20);
        DUE.is("63: by numbers behind those told", x.sharp(), 1 << 3 | 1 << 4);
        DUE.is("63: told ones stay", x.count(5), 1);
        UncutTale one = Due.told("tale years 1 law 0 odds 0;part charm 60 tires 0;");
        DUE.is("63: one year has YEAR 0", one.knife(0, 0), 60);
        DUE.is("63: and YEAR 1, the last", one.knife(0, 1), -2);
        UncutTale twelve = Due.told("tale years 12 law 0 odds 0;part charm 60 tires 1;");
        DUE.is("63: YEAR 11 of twelve", twelve.knife(0, 11), 49);
        DUE.is("63: YEAR 12 is the last", twelve.knife(0, 12), -2);
        UncutTale none = Due.told("tale years 1 law 0 odds 0;");
        DUE.is("63: without PARTS", none.knife(0, 0), -2);
        DUE.is("64: without PARTS", none.air(0, 0), -2);
    }

    private static void promise64Air() {
        UncutTale x = Due.told(TWO);
        DUE.is("64: in YEAR 0", x.air(0, 0), 21);
        DUE.is("64: in the YEAR ahead of the last", x.air(0, 2), 11);
        DUE.is("64: twice in one YEAR", x.air(0, 2), 2);
        DUE.is("64: 0 at least, 2 a YEAR more", x.air(0, 2), 2);
        DUE.is("64: the last YEAR is none", x.air(0, 3), -2);
        DUE.is("64: an open one is as it was", x.air(1, 2), 3);
        DUE.is("64: in the YEAR it is opened", x.air(1, 1), 0);
        DUE.is("64: it is READ for more then", x.read(1), 20);
        DUE.is("64: all are acts", x.count(6), 6);
        UncutTale y = Due.told("tale years 2 law 2 odds 0;part charm 9 tires 0 stiff 60;");
        DUE.is("64: 60, 99, 89 doubled", y.air(0, 1), 99);
        y.undo();
        for (int i = 0; i < 5; i++) {
            y.air(0, 0);
        }
        DUE.is("64: 60, 10 doubled, doubled", y.stiff(0, 2), 40);
        DUE.is("64: to nothing", y.air(0, 0), 0);
    }

    private static void twentyActs() {
        UncutTale x = Due.told(TWO);
        for (int i = 0; i < 10; i++) {
            DUE.is("63: one of twenty", x.knife(1, 2), 17);
            DUE.is("64: one of twenty", x.air(1, 2), 3);
        }
        DUE.is("70: twenty", x.count(6), 20);
        DUE.is("63: there were 20 acts", x.knife(0, 0), -5);
        DUE.is("64: there were 20 acts", x.air(0, 0), -5);
        DUE.is("63: -2 is asked ahead", x.knife(0, 3), -2);
        DUE.is("64: -2 is asked ahead", x.air(2, 0), -2);
        DUE.is("63: nothing happened", x.all(), 17);
        DUE.is("64: nothing happened", x.stiff(0, 3), 31);
        DUE.is("65: nineteen", x.undo(), 19);
        DUE.is("63: the twentieth", x.knife(0, 0), 22);
        DUE.is("63: there were 20 acts", x.knife(0, 0), -5);
        DUE.is("66: there were 20", x.anew(), 20);
        for (int i = 1; i <= 20; i++) {
            x.air(0, 0);
            DUE.is("70: acts", x.count(6), i);
        }
        DUE.is("64: a 21st", x.air(0, 0), -5);
        DUE.is("64: two hundred less is 0", x.stiff(0, 1), 2);
        for (int i = 19; i >= 0; i--) {
            DUE.is("65: back to none", x.undo(), i);
        }
        DUE.is("65: there is none", x.undo(), -5);
        DUE.is("9: as told", x.stiff(0, 1), 27);
    }

    private static void promises65And66UndoAnew() {
        UncutTale x = Due.told(TWO);
        DUE.is("65: there is none", x.undo(), -5);
        DUE.is("66: there were none", x.anew(), 0);
        x.air(0, 0);
        x.knife(0, 1);
        x.air(0, 1);
        DUE.is("15: aired twice", x.all(), 17 + 23);
        DUE.is("65: the latest", x.undo(), 2);
        DUE.is("15: aired once", x.all(), 17 + 13);
        DUE.is("65: a KNIFE", x.undo(), 1);
        DUE.is("15: not opened", x.all(), 17);
        DUE.is("9: aired once", x.stiff(0, 1), 17);
        DUE.is("65: the first", x.undo(), 0);
        DUE.is("65: there is none", x.undo(), -5);
        x.knife(0, 0);
        DUE.is("66: one", x.anew(), 1);
        DUE.is("66: none is left", x.anew(), 0);
        DUE.is("65: none is left", x.undo(), -5);
        DUE.is("15: as told", x.all(), 17);
        x.knife(0, 0);
        Due.put(x, "tale");
        x.tale();
        DUE.is("65: a FAULT leaves acts", x.undo(), 0);
        UncutTale none = Due.told("tale years 1 law 0 odds 0;");
        DUE.is("65: without PARTS there is none", none.undo(), -5);
        DUE.is("66: without PARTS there were none", none.anew(), 0);
    }

    private static void promise69Rate() {
        UncutTale x = Due.told(TWO);
        DUE.is("69: what it was", x.rate(0, 0), 30);
        DUE.is("69: the least", x.part(0, 0), 0);
        DUE.is("69: the most", x.rate(0, 60), 0);
        DUE.is("69: the most", x.part(0, 0), 60);
        DUE.is("69: more than the most", x.rate(0, 61), -2);
        DUE.is("69: below 0", x.rate(0, -1), -2);
        DUE.is("69: no such PART", x.rate(2, 0), -2);
        DUE.is("69: it stays", x.part(0, 0), 60);
        DUE.is("69: as it is", x.rate(0, 60), 60);
        DUE.is("69: it is no act", x.count(6), 0);
        DUE.is("69: nor taken back", x.undo(), -5);
        DUE.is("69: nor taken back", x.anew(), 0);
        DUE.is("69: of the last PART", x.rate(1, 40), 20);
        DUE.is("69: READ by it from now on", x.all(), 37);
        x.knife(0, 0);
        DUE.is("69: there were acts", x.rate(1, 20), -5);
        DUE.is("69: as it is, but there were acts", x.rate(1, 40), -5);
        DUE.is("69: -2 is asked ahead", x.rate(1, 61), -2);
        DUE.is("69: it stays", x.part(1, 0), 40);
        x.undo();
        DUE.is("69: there are none any more", x.rate(1, 20), 40);
        x.air(1, 0);
        DUE.is("69: there were acts", x.rate(1, 30), -5);
        x.anew();
        DUE.is("69: there are none any more", x.rate(1, 30), 20);
        DUE.is("69: how STIFF it is stays", x.stiff(1, 3), 3);
        Due.put(x, TWO);
        x.tale();
        DUE.is("69: another TALE has its own", x.part(1, 0), 20);
    }

    private static void promise71Image() {
        UncutTale x = Due.told(TWO);
        for (int k = 0; k < 3; k++) {
            DUE.is("72: it has nothing", x.back(k), -6);
        }
        for (int k = 0; k < 3; k++) {
            DUE.is("71: an IMAGE", x.image(k), 0);
            DUE.is("71: nothing else happens", x.count(6), k);
            x.knife(0, k);
        }
        DUE.is("71: no such k", x.image(3), -2);
        DUE.is("71: no such k", x.image(-1), -2);
        DUE.is("71: no such k", x.image(Integer.MIN_VALUE), -2);
        DUE.is("71: no such k", x.image(Integer.MAX_VALUE), -2);
        for (int k = 2; k >= 0; k--) {
            DUE.is("72: as it was", x.back(k), 0);
            DUE.is("72: its acts", x.count(6), k);
        }
        x.anew();
        x.air(1, 0);
        x.air(1, 1);
        x.back(2);
        DUE.is("72: acts of their kind, of their PARTS", x.sharp(), 3);
        DUE.is("72: in their YEARS", x.when(0), 0);
        x.anew();
        x.knife(1, 0);
        x.image(2);
        x.undo();
        x.air(0, 2);
        x.back(2);
        DUE.is("72: acts of their kind", x.sharp(), 2);
        DUE.is("72: acts of their PARTS", x.stiff(0, 3), 31);
        x.anew();
        x.knife(0, 0);
        x.knife(0, 1);
        x.image(2);
        x.back(1);
        DUE.is("71: in place of the older", x.image(0), 0);
        x.anew();
        x.back(0);
        DUE.is("72: the newer", x.count(6), 1);
        x.back(2);
        DUE.is("72: the others stay", x.count(6), 2);
    }

    private static void promise72Back() {
        UncutTale x = Due.told(TWO);
        DUE.is("72: no such k", x.back(3), -2);
        DUE.is("72: no such k", x.back(-1), -2);
        x.rate(0, 40);
        for (int i = 0; i < 20; i++) {
            x.air(0, 0);
        }
        x.image(2);
        x.anew();
        x.rate(0, 30);
        x.row(1, 0, 3);
        Due.put(x, "tale years 1 law 3 odds 1;part charm 1 tires 1;knife 0 at 0;?");
        DUE.is("4: a FAULT", x.tale(), -4);
        DUE.is("72: back", x.back(2), 0);
        int[] due = {3, 0, 5, 2, 0, 1, 20, 4, 61, 1};
        for (int what = 0; what < 10; what++) {
            DUE.is("72: the TALE and acts, not TAPE and SLOTS, count " + what, x.count(what), due[what]);
        }
        DUE.is("72: not the FAULT", x.fault(1), 60);
        DUE.is("72: charm as it was", x.part(0, 0), 40);
        DUE.is("72: there were 20 acts", x.knife(0, 0), -5);
        DUE.is("72: aired as it was", x.stiff(0, 1), 2);
        DUE.is("65: they can be taken back", x.undo(), 19);
        x.end(60);
        DUE.is("4: another TALE", x.tale(), 3);
        DUE.is("72: from another TALE", x.back(2), 0);
        DUE.is("72: the IMAGE has what it had", x.count(6), 20);
        DUE.is("72: the IMAGE has what it had", x.count(3), 2);
        DUE.is("72: the others have nothing", x.back(0), -6);
        DUE.is("72: and nothing happens", x.count(6), 20);
        x.end(0);
        x.tale();
        DUE.is("4: there is none then", x.count(7), 0);
        DUE.is("72: from none", x.back(2), 0);
        DUE.is("72: from none", x.count(7), 4);
        DUE.is("72: as it was", x.all(), 17);
    }

    private static void imagesWithoutTale() {
        UncutTale x = new UncutTale();
        DUE.is("72: it has nothing", x.back(0), -6);
        DUE.is("71: without a TALE", x.image(0), 0);
        Due.put(x, TWO);
        x.tale();
        x.knife(0, 0);
        DUE.is("72: to none", x.back(0), 0);
        DUE.is("72: to none", x.all(), -2);
        DUE.is("72: to none", x.count(7), 0);
        DUE.is("72: no acts either", x.undo(), -2);
    }

    /** No answer is left over from ahead of a change: each is asked, then changed, then asked again. */
    private static void answersAfterAChange() {
        UncutTale x = Due.told("tale years 2 law 0 odds 5;part charm 9 tires 1;part charm 9 tires 1;knife 0 at 0;");
        asked(x, 9, 17, 9, 2);
        x.knife(1, 1);
        asked(x, 17, 17, 25, 2);
        x.undo();
        asked(x, 9, 17, 9, 2);
        x.image(0);
        x.rate(0, 20);
        asked(x, 20, 28, 10, 1);
        x.air(0, 0);
        x.anew();
        asked(x, 20, 28, 10, 1);
        x.back(0);
        asked(x, 9, 17, 9, 2);
        Due.put(x, "tale years 2 law 0 odds 10;part charm 5 tires 1;knife 0 at 0;");
        x.tale();
        asked(x, 5, 5, 5, 1);
        Due.put(x, "tale ?");
        x.tale();
        asked(x, 5, 5, 5, 1);
        x.back(0);
        asked(x, 9, 17, 9, 2);
    }

    private static void asked(UncutTale x, int all, int plan, long above, long below) {
        DUE.is("15: all", x.all(), all);
        DUE.is("43: plan", x.plan(2), plan);
        DUE.is("62: above", x.mean(0), above);
        DUE.is("62: below", x.mean(1), below);
    }

    /** Nothing of a larger TALE is left over in a smaller one: it answers as on a new object. */
    private static void smallerBehindLarger() {
        String large = "tale years 12 law 2 odds 9;part charm 60 tires 9 stiff 60;part charm 60 tires 9 stiff 9;"
            + "part charm 60 tires 9 stiff 9;part charm 60 tires 9 stiff 9;part charm 60 tires 9 stiff 9;part charm 60 tires 9 stiff 9;"
            + "fold 0 1;fold 1 2;fold 2 3;fold 3 4;fold 4 5;fold 5 0;fold 0 2;fold 0 3;fold 1 3;fold 1 4;"
            + "knife 0 at 0;knife 1 at 1;knife 2 at 2;knife 3 at 3;knife 4 at 4;knife 5 at 5;knife 0 at 1;knife 0 at 2;";
        String[] small = {"tale years 1 law 0 odds 0;", "tale years 1 law 0 odds 1;part charm 3 tires 1;",
            "tale years 2 law 1 odds 5;part charm 3 tires 1;part charm 4 tires 1;fold 0 1;knife 1 at 1;",
            "tale years 5 law 3 odds 5;part charm 3 tires 1;part charm 4 tires 1;part charm 5 tires 2 stiff 3;fold 2 1;knife 0 at 4;"};
        for (String text : small) {
            UncutTale x = Due.told(large);
            for (int i = 0; i < 20; i++) {
                if (i % 2 == 0) {
                    x.air(i % 6, i % 12);
                } else {
                    x.knife(i % 6, i % 12);
                }
            }
            answers(x);
            x.image(0);
            Due.put(x, text);
            x.tale();
            String fresh = answers(Due.told(text));
            DUE.is("4: as on a new object: " + text, answers(x).equals(fresh) ? 1 : 0, 1);
            x.image(1);
            x.back(0);
            answers(x);
            x.back(1);
            DUE.is("72: as on a new object: " + text, answers(x).equals(fresh) ? 1 : 0, 1);
        }
    }

    private static String answers(UncutTale x) {
        StringBuilder b = new StringBuilder();
        long[] whole = {x.all(), x.sharp(), x.uncut(), x.done(), x.rush(), x.charms(), x.peak(), x.first(), x.quiet(), x.pieces(),
            x.lost(), x.idle(), x.few(), x.fews(), x.law(), x.blunt(), x.slit(), x.uncle(), x.opens(), x.mean(0), x.mean(1)};
        for (long answer : whole) {
            b.append(answer).append(' ');
        }
        for (int n = 0; n <= 13; n++) {
            long[] some = {x.open(n), x.reads(n), x.waits(n), x.next(n), x.dull(n), x.cut(n), x.lone(n), x.stalest(n), x.plan(n),
                x.planned(n, 0), x.plans(n), x.by(n), x.worth(n), x.drawn(n, 0), x.drawn(n, 1), x.near(n), x.when(n), x.how(n), x.read(n),
                x.dies(n), x.ages(n), x.with(n), x.best(n), x.knives(n), x.share(n, 0), x.share(n, 1), x.replies(n), x.rests(n, 0),
                x.gets(0, n, 1, 1), x.chance(n, 0), x.chance(n, 1), x.luck(n, 9, 0)};
            for (long answer : some) {
                b.append(answer).append(' ');
            }
            for (int p = 0; p < 6; p++) {
                b.append(x.stiff(p, n)).append(' ').append(x.keeps(p, n)).append(' ').append(x.far(p, n)).append(' ');
            }
        }
        return b.toString();
    }
}
