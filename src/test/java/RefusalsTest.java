import java.util.ArrayList;
import java.util.List;

/**
 * Every refusal that the document names, call by call: one below the least, one above the greatest, the ends of int;
 * that the least and the greatest are not refused; and that nothing happens by a refused call.
 */
public final class RefusalsTest {
    private static final Due DUE = new Due();
    private static final int LEAST = Integer.MIN_VALUE;
    private static final int GREATEST = Integer.MAX_VALUE;
    private static final String NO_PARTS = "tale years 3 law 1 odds 5;";
    private static final String SMALL = "tale years 1 law 2 odds 5;part charm 9 tires 1 stiff 1;";
    private static final String PAIR = "tale years 1 law 2 odds 5;part charm 9 tires 1;part charm 8 tires 1;";
    private static final String LARGE = "tale years 12 law 1 odds 3;part charm 60 tires 9 stiff 60;part charm 50 tires 9;"
        + "part charm 40 tires 0;part charm 30 tires 1;part charm 20 tires 2 stiff 7;part charm 10 tires 3;"
        + "fold 0 1;fold 1 2;fold 2 3;fold 3 4;fold 4 5;fold 5 0;fold 0 2;fold 0 3;fold 1 3;fold 1 4;"
        + "knife 0 at 11;knife 0 at 11;knife 1 at 3;knife 2 at 5;knife 3 at 0;knife 4 at 10;knife 5 at 11;knife 5 at 2;";

    private interface Ask {
        long of(UncutTale x, int n);
    }

    private record Call(String name, long refusal, Ask ask) {
    }

    public static void main(String[] args) {
        for (String text : new String[] {NO_PARTS, SMALL, PAIR, LARGE}) {
            parts(text);
            years(text);
            workingYears(text);
            acts(text);
            numbersOfOtherKinds(text);
        }
        withoutTale(new UncutTale());
        UncutTale emptied = Due.told(LARGE);
        DUE.is("an empty tale", emptied.tale(), 0);
        withoutTale(emptied);
        UncutTale goneBack = new UncutTale();
        goneBack.image(0);
        Due.put(goneBack, LARGE);
        goneBack.tale();
        goneBack.back(0);
        withoutTale(goneBack);
        DUE.end();
    }

    // ---- which calls take what ----

    private static List<Call> partCalls() {
        List<Call> calls = new ArrayList<>();
        for (int what = 0; what < 3; what++) {
            int w = what;
            calls.add(new Call("6 part", -2, (x, p) -> x.part(p, w)));
        }
        calls.add(new Call("7 near", -2, (x, p) -> x.near(p)));
        calls.add(new Call("8 far", -2, (x, p) -> x.far(p, 0)));
        calls.add(new Call("8 far, the other", -2, (x, p) -> x.far(0, p)));
        calls.add(new Call("9 stiff", -2, (x, p) -> x.stiff(p, 0)));
        calls.add(new Call("11 when", -2, (x, p) -> x.when(p)));
        calls.add(new Call("12 how", -2, (x, p) -> x.how(p)));
        calls.add(new Call("13 read", -2, (x, p) -> x.read(p)));
        calls.add(new Call("16 keeps", -2, (x, p) -> x.keeps(p, 0)));
        calls.add(new Call("20 dies", -2, (x, p) -> x.dies(p)));
        calls.add(new Call("21 ages", -100, (x, p) -> x.ages(p)));
        calls.add(new Call("27 with", -2, (x, p) -> x.with(p)));
        calls.add(new Call("29 best", -2, (x, p) -> x.best(p)));
        calls.add(new Call("37 knives", -2, (x, p) -> x.knives(p)));
        for (int what = 0; what < 2; what++) {
            int w = what;
            calls.add(new Call("42 share", -1000000, (x, p) -> x.share(p, w)));
            calls.add(new Call("61 chance", -2, (x, p) -> x.chance(p, w)));
        }
        calls.add(new Call("46 stiffs", -2, (x, p) -> x.stiffs(0, p)));
        calls.add(new Call("47 low", -2, (x, p) -> x.low(0, p)));
        calls.add(new Call("48 high", -2, (x, p) -> x.high(0, p)));
        calls.add(new Call("49 ask", -2, (x, p) -> x.ask(0, p)));
        calls.add(new Call("50 leaves", -2, (x, p) -> x.leaves(0, p)));
        calls.add(new Call("58 replies", -2, (x, p) -> x.replies(p)));
        calls.add(new Call("68 luck", -2, (x, p) -> x.luck(0, 1, p)));
        return calls;
    }

    private static List<Call> yearCalls() {
        List<Call> calls = new ArrayList<>();
        calls.add(new Call("10 open", -2, (x, y) -> x.open(y)));
        calls.add(new Call("17 waits", -2, (x, y) -> x.waits(y)));
        calls.add(new Call("18 next", -2, (x, y) -> x.next(y)));
        calls.add(new Call("19 dull", -2, (x, y) -> x.dull(y)));
        calls.add(new Call("22 cut", -2, (x, y) -> x.cut(y)));
        calls.add(new Call("33 lone", -2, (x, y) -> x.lone(y)));
        calls.add(new Call("34 stalest", -2, (x, y) -> x.stalest(y)));
        return calls;
    }

    // ---- one below, one above, and the ends of int ----

    private static void parts(String text) {
        UncutTale x = Due.told(text);
        x.row(0, 0, 0);
        int parts = x.count(3);
        for (Call call : partCalls()) {
            refuses(x, call, LEAST, -64, -32, -1, parts, 6, 7, 31, 32, 64, GREATEST);
            for (int p = 0; p < parts; p++) {
                accepts(x, call, p);
            }
        }
    }

    private static void years(String text) {
        UncutTale x = Due.told(text);
        int years = x.count(0);
        for (Call call : yearCalls()) {
            refuses(x, call, LEAST, -1, years + 1, 13, 14, 32, GREATEST);
            for (int y = 0; y <= years; y++) {
                accepts(x, call, y);
            }
        }
        if (x.count(3) > 0) {
            for (Call call : List.of(new Call("9 stiff", -2, (t, y) -> t.stiff(0, y)),
                    new Call("16 keeps", -2, (t, y) -> t.keeps(0, y)))) {
                refuses(x, call, LEAST, -1, years + 1, 13, 32, GREATEST);
                accepts(x, call, 0);
                accepts(x, call, years);
            }
        }
    }

    private static void workingYears(String text) {
        UncutTale x = Due.told(text);
        int years = x.count(0);
        Call reads = new Call("14 reads, the last one has none", -2, (t, y) -> t.reads(y));
        refuses(x, reads, LEAST, -1, years, years + 1, 13, GREATEST);
        accepts(x, reads, 0);
        accepts(x, reads, years - 1);
        int most = Math.min(5, years);
        for (Call call : List.of(new Call("43 plan", -2, (t, n) -> t.plan(n)), new Call("45 plans", -2, (t, n) -> t.plans(n)),
                new Call("44 planned", -2, (t, n) -> t.planned(n, 0)))) {
            refuses(x, call, LEAST, -1, 0, most + 1, 6, 12, 13, GREATEST);
            for (int n = 1; n <= most; n++) {
                accepts(x, call, n);
            }
        }
        for (int n = 1; n <= most; n++) {
            int m = n;
            Call planned = new Call("44 planned, k", -2, (t, k) -> t.planned(m, k));
            refuses(x, planned, LEAST, -1, n, 5, 6, GREATEST);
            accepts(x, planned, n - 1);
        }
    }

    private static void acts(String text) {
        UncutTale x = Due.told(text);
        int years = x.count(0);
        int parts = x.count(3);
        refuses(x, new Call("63 knife", -2, (t, p) -> t.knife(p, 0)), LEAST, -1, parts, 6, 32, GREATEST);
        refuses(x, new Call("64 air", -2, (t, p) -> t.air(p, 0)), LEAST, -1, parts, 6, 32, GREATEST);
        refuses(x, new Call("69 rate", -2, (t, p) -> t.rate(p, 0)), LEAST, -1, parts, 6, 32, GREATEST);
        refuses(x, new Call("63 knife", -2, (t, y) -> t.knife(0, y)), LEAST, -1, years, years + 1, 12, 13, GREATEST);
        refuses(x, new Call("64 air", -2, (t, y) -> t.air(0, y)), LEAST, -1, years, years + 1, 12, 13, GREATEST);
        refuses(x, new Call("69 rate", -2, (t, n) -> t.rate(0, n)), LEAST, -1, 61, GREATEST);
        refuses(x, new Call("65 undo", -5, (t, n) -> t.undo()), 0);
        accepts(x, new Call("66 anew", -5, (t, n) -> t.anew()), 0);
        for (int p = 0; p < parts; p++) {
            accepts(x, new Call("63 knife", -2, (t, n) -> t.knife(n, years - 1)), p);
            accepts(x, new Call("64 air", -2, (t, n) -> t.air(n, years - 1)), p);
        }
        DUE.is("as many acts as came", x.count(6), 2 * parts);
        if (parts > 0) {
            refuses(x, new Call("69 rate: there were acts", -5, (t, n) -> t.rate(0, n)), 0, 60);
            refuses(x, new Call("69 rate: -2 ahead of -5", -2, (t, n) -> t.rate(0, n)), -1, 61);
            refuses(x, new Call("69 rate: -2 ahead of -5", -2, (t, p) -> t.rate(p, 0)), -1, parts);
            for (int i = x.count(6); i < 20; i++) {
                DUE.is("one more act", x.air(0, 0) < 0 ? 0 : 1, 1);
            }
            refuses(x, new Call("63 knife: there were 20 acts", -5, (t, p) -> t.knife(p, 0)), 0, parts - 1);
            refuses(x, new Call("64 air: there were 20 acts", -5, (t, p) -> t.air(p, 0)), 0, parts - 1);
            refuses(x, new Call("63 knife: -2 ahead of -5", -2, (t, p) -> t.knife(p, 0)), -1, parts);
            refuses(x, new Call("63 knife: -2 ahead of -5", -2, (t, y) -> t.knife(0, y)), -1, years);
            refuses(x, new Call("64 air: -2 ahead of -5", -2, (t, p) -> t.air(p, 0)), -1, parts);
            refuses(x, new Call("64 air: -2 ahead of -5", -2, (t, y) -> t.air(0, y)), -1, years);
        }
    }

    private static void numbersOfOtherKinds(String text) {
        UncutTale x = Due.told(text);
        int parts = x.count(3);
        refuses(x, new Call("5 fault", -1, (t, what) -> t.fault(what)), LEAST, -1, 2, GREATEST);
        refuses(x, new Call("70 count", -1, (t, what) -> t.count(what)), LEAST, -1, 10, 11, GREATEST);
        Call worth = new Call("41 worth", -2, (t, set) -> t.worth(set));
        refuses(x, worth, LEAST, -1, 1 << parts, 64, 1 << 30, GREATEST);
        accepts(x, worth, 0);
        accepts(x, worth, (1 << parts) - 1);
        Call by = new Call("52 by", -2, (t, law) -> t.by(law));
        refuses(x, by, LEAST, -1, 4, 32, GREATEST);
        accepts(x, by, 0);
        accepts(x, by, 3);
        refuses(x, new Call("62 mean", -2, (t, what) -> t.mean(what)), LEAST, -1, 2, GREATEST);
        refuses(x, new Call("67 drawn", -2, (t, what) -> t.drawn(0, what)), LEAST, -1, 2, GREATEST);
        Call drawn = new Call("67 drawn", -2, (t, seed) -> t.drawn(seed, 0));
        refuses(x, drawn, LEAST, -1, 2000000001, GREATEST);
        accepts(x, drawn, 0);
        accepts(x, drawn, 2000000000);
        refuses(x, new Call("71 image", -2, (t, k) -> t.image(k)), LEAST, -1, 3, GREATEST);
        refuses(x, new Call("72 back", -2, (t, k) -> t.back(k)), LEAST, -1, 3, GREATEST);
        refuses(x, new Call("72 back: it has nothing", -6, (t, k) -> t.back(k)), 0, 1, 2);
        refuses(x, new Call("51 laws", -2, (t, slot) -> t.laws(slot)), LEAST, -1, 4, GREATEST);
        refuses(x, new Call("51 laws: it has nothing", -6, (t, slot) -> t.laws(slot)), 0, 1, 2, 3);
        if (parts > 0) {
            whats(x);
            seen(x);
            luck(x);
        }
        pairs(x, parts);
    }

    private static void whats(UncutTale x) {
        refuses(x, new Call("6 part, what", -2, (t, what) -> t.part(0, what)), LEAST, -1, 3, GREATEST);
        refuses(x, new Call("42 share, what", -1000000, (t, what) -> t.share(0, what)), LEAST, -1, 2, GREATEST);
        refuses(x, new Call("61 chance, what", -2, (t, what) -> t.chance(0, what)), LEAST, -1, 2, GREATEST);
    }

    private static void seen(UncutTale x) {
        List<Call> calls = List.of(new Call("46 stiffs", -2, (t, s) -> t.stiffs(s, 0)), new Call("47 low", -2, (t, s) -> t.low(s, 0)),
            new Call("48 high", -2, (t, s) -> t.high(s, 0)), new Call("49 ask", -2, (t, s) -> t.ask(s, 0)),
            new Call("50 leaves", -2, (t, s) -> t.leaves(s, 0)));
        for (Call call : calls) {
            refuses(x, call, LEAST, -1, 4, GREATEST);
            refuses(x, new Call(call.name + ": it has nothing", -6, call.ask), 0, 1, 2, 3);
        }
    }

    private static void luck(UncutTale x) {
        Call seeds = new Call("68 luck, the seed", -2, (t, seed) -> t.luck(seed, 1, 0));
        refuses(x, seeds, LEAST, -1, 2000000001, GREATEST);
        accepts(x, seeds, 0);
        accepts(x, seeds, 2000000000);
        Call many = new Call("68 luck, n", -2, (t, n) -> t.luck(0, n, 0));
        refuses(x, many, LEAST, -1, 0, 21, GREATEST);
        accepts(x, many, 1);
        accepts(x, many, 20);
    }

    private static void pairs(UncutTale x, int parts) {
        for (int p = -1; p <= parts; p++) {
            int q = p;
            refuses(x, new Call("59 rests, one twice", -2, (t, n) -> t.rests(n, n)), p);
            refuses(x, new Call("60 gets, one twice", -1000, (t, n) -> t.gets(n, n, 0, 0)), p);
            refuses(x, new Call("59 rests", -2, (t, n) -> t.rests(n, q)), LEAST, -1, parts, 6, 32, GREATEST);
            refuses(x, new Call("59 rests", -2, (t, n) -> t.rests(q, n)), LEAST, -1, parts, 6, 32, GREATEST);
            refuses(x, new Call("60 gets", -1000, (t, n) -> t.gets(n, q, 0, 0)), LEAST, -1, parts, 6, 32, GREATEST);
            refuses(x, new Call("60 gets", -1000, (t, n) -> t.gets(q, n, 0, 0)), LEAST, -1, parts, 6, 32, GREATEST);
        }
        if (parts > 1) {
            accepts(x, new Call("59 rests", -2, (t, n) -> t.rests(0, n)), parts - 1);
            accepts(x, new Call("59 rests", -2, (t, n) -> t.rests(n, 0)), parts - 1);
            for (int sewn = 0; sewn < 2; sewn++) {
                int s = sewn;
                accepts(x, new Call("60 gets", -1000, (t, n) -> t.gets(0, n, s, 1)), parts - 1);
                refuses(x, new Call("60 gets, a choice", -1000, (t, n) -> t.gets(0, parts - 1, n, s)), LEAST, -1, 2, GREATEST);
                refuses(x, new Call("60 gets, the other's choice", -1000, (t, n) -> t.gets(0, parts - 1, s, n)),
                    LEAST, -1, 2, GREATEST);
            }
        }
    }

    // ---- no TALE ----

    private static void withoutTale(UncutTale x) {
        for (Call call : partCalls()) {
            refuses(x, call, LEAST, -1, 0, 5, 6, GREATEST);
        }
        for (Call call : yearCalls()) {
            refuses(x, call, LEAST, -1, 0, 1, 12, 13, GREATEST);
        }
        long[] two = {x.reads(0), x.all(), x.sharp(), x.uncut(), x.done(), x.rush(), x.charms(), x.peak(), x.first(), x.quiet(),
            x.pieces(), x.lost(), x.idle(), x.few(), x.fews(), x.worth(0), x.plan(1), x.planned(1, 0), x.plans(1), x.laws(0),
            x.by(0), x.law(), x.blunt(), x.slit(), x.opens(), x.rests(0, 1), x.mean(0), x.mean(1), x.knife(0, 0), x.air(0, 0),
            x.undo(), x.anew(), x.drawn(0, 0), x.drawn(0, 1), x.rate(0, 0)};
        for (int i = 0; i < two.length; i++) {
            DUE.is("there is no TALE, call " + i, two[i], -2);
        }
        DUE.is("56 uncle: no TALE", x.uncle(), -1000);
        DUE.is("60 gets: no TALE", x.gets(0, 1, 0, 0), -1000);
        for (int what = 0; what <= 7; what++) {
            DUE.is("70 count: no TALE", x.count(what), 0);
        }
        DUE.is("laws: no TALE ahead of -6", x.laws(3), -2);
        DUE.is("stiffs: no PART ahead of -6", x.stiffs(3, 0), -2);
        x.row(3, 0, 3);
        DUE.is("laws: no TALE, with a row", x.laws(3), -2);
        DUE.is("stiffs: no PART, with a row", x.stiffs(3, 0), -2);
    }

    // ---- what is held ----

    private static void refuses(UncutTale x, Call call, int... numbers) {
        String before = state(x);
        for (int n : numbers) {
            DUE.is(call.name + " of " + n, call.ask.of(x, n), call.refusal);
        }
        DUE.is("nothing happens by a refused " + call.name, before.equals(state(x)) ? 1 : 0, 1);
    }

    private static void accepts(UncutTale x, Call call, int n) {
        DUE.is(call.name + " of " + n + " is not refused", call.ask.of(x, n) == call.refusal ? 0 : 1, 1);
    }

    /** What can be seen of an object from outside. */
    private static String state(UncutTale x) {
        StringBuilder b = new StringBuilder();
        for (int what = 0; what < 10; what++) {
            b.append(x.count(what)).append(' ');
        }
        b.append(x.fault(0)).append(' ').append(x.fault(1)).append(' ').append(x.all()).append(' ').append(x.sharp());
        for (int p = 0; p < x.count(3); p++) {
            for (int what = 0; what < 3; what++) {
                b.append(' ').append(x.part(p, what));
            }
            for (int y = 0; y <= x.count(0); y++) {
                b.append(' ').append(x.stiff(p, y)).append(x.open(y));
            }
        }
        return b.append(' ').append(x.mean(0)).append(' ').append(x.cut(x.count(0))).toString();
    }
}
