import java.util.Arrays;

/** A tale of uncut parts, as ../shared/DOC.md promises it; its words in capitals are used here, too. */
public final class UncutTale {
    public static final int NONE = -1;

    private static final int MOST_PARTS = 6;
    private static final int MOST_FOLDS = 10;
    private static final int MOST_KNIVES = 8;
    private static final int MOST_YEARS = 12;
    private static final int MOST_ACTS = 20;
    private static final int MOST_CHARM = 60;
    private static final int MOST_TOLD_STIFF = 60;
    private static final int MOST_STIFF = 99;
    private static final int MOST_TIRES = 9;
    private static final int MOST_PLANNED = 5;
    private static final int MOST_LUCK = 20;
    private static final int MOST_SEED = 2000000000;
    private static final int LAWS = 4;
    private static final int IMAGES = 3;
    private static final int SLOTS = 4;
    private static final int WIDTHS = 4;
    private static final int LONGEST_ROW = 60;
    private static final int LONGEST_TAPE = 700;
    private static final int AIRING = 10;
    private static final int KNIFE = 0;
    private static final int AIR = 1;
    private static final int ODDS_OF = 10;
    private static final int SEWN_GETS = 4;

    private static final int NO_SUCH = -2;
    private static final int BELOW_NOTHING = -3;
    private static final int FAULTY = -4;
    private static final int ACTS_FORBID = -5;
    private static final int HAS_NOTHING = -6;
    private static final int NO_NUMBER = -7;
    private static final int OTHER_WIDTH = -8;
    private static final int NO_AGE = -100;
    private static final int NO_GAME = -1000;
    private static final int NO_SHARE = -1000000;

    private static final int[] FACTORIALS = {1, 1, 2, 6, 24, 120, 720};

    private final Tape tape;
    private final Story draft;
    private final Parser parser;
    private final Story story;
    private final Story[] images;
    private final boolean[] imaged;
    private final Slots slots;
    private final Course now;
    private final Course trial;
    private final Planner planner;
    private final Odds odds;
    private final Guess guess;
    private boolean nowIsStale;
    private boolean oddsAreStale;
    private int plannedYears;

    public UncutTale() {
        tape = new Tape();
        draft = new Story();
        parser = new Parser(tape, draft);
        story = new Story();
        images = new Story[IMAGES];
        for (int k = 0; k < IMAGES; k++) {
            images[k] = new Story();
        }
        imaged = new boolean[IMAGES];
        slots = new Slots();
        now = new Course(story);
        trial = new Course(story);
        planner = new Planner(story, trial);
        odds = new Odds(story, trial);
        guess = new Guess(story, slots);
        nowIsStale = true;
        oddsAreStale = true;
        plannedYears = 0;
    }

    // ---- the text ----

    public int feed(int a, int b, int c, int d, int e) {
        if (!tape.hasRoomForFive()) {
            return NONE;
        }
        tape.append(a);
        tape.append(b);
        tape.append(c);
        tape.append(d);
        tape.append(e);
        return tape.length;
    }

    public int end(int n) {
        if (n < 0 || n > tape.length) {
            return NONE;
        }
        tape.length = n;
        return n;
    }

    public int tale() {
        if (!parser.parse()) {
            return FAULTY;
        }
        story.become(draft);
        tape.length = 0;
        forgetAnswers();
        return story.lines;
    }

    public int fault(int what) {
        switch (what) {
            case 0: return parser.fault;
            case 1: return parser.faultPlace;
            default: return NONE;
        }
    }

    // ---- what was told ----

    public int part(int part, int what) {
        if (!story.hasPart(part)) {
            return NO_SUCH;
        }
        switch (what) {
            case 0: return story.charm[part];
            case 1: return story.tires[part];
            case 2: return story.toldStiff[part];
            default: return NO_SUCH;
        }
    }

    public int near(int part) {
        return story.hasPart(part) ? story.neighbours(part, NONE) : NO_SUCH;
    }

    public int far(int part, int other) {
        if (!story.hasPart(part) || !story.hasPart(other)) {
            return NO_SUCH;
        }
        int reached = 1 << part;
        for (int folds = 0; folds < MOST_PARTS; folds++) {
            if (hasBit(reached, other)) {
                return folds;
            }
            reached = story.spread(reached);
        }
        return NONE;
    }

    public int pieces() {
        if (!story.isTold()) {
            return NO_SUCH;
        }
        int sets = 0;
        int seen = 0;
        for (int part = 0; part < story.parts; part++) {
            if (!hasBit(seen, part)) {
                sets++;
                seen |= story.joinedWith(part);
            }
        }
        return sets;
    }

    public int knives(int part) {
        if (!story.hasPart(part)) {
            return NO_SUCH;
        }
        int bits = 0;
        for (int k = 0; k < story.knives; k++) {
            if (story.knifePart[k] == part) {
                bits |= 1 << k;
            }
        }
        return bits;
    }

    public int count(int what) {
        switch (what) {
            case 0: return story.years;
            case 1: return story.law;
            case 2: return story.odds;
            case 3: return story.parts;
            case 4: return story.folds;
            case 5: return story.knives;
            case 6: return story.acts;
            case 7: return story.lines;
            case 8: return tape.length;
            case 9: return slots.filled();
            default: return NONE;
        }
    }

    // ---- year by year ----

    public int stiff(int part, int year) {
        return hasPartAndYear(part, year) ? current().stiffness(part, year) : NO_SUCH;
    }

    public int open(int year) {
        return story.hasYear(year) ? current().openIn(year) : NO_SUCH;
    }

    public int when(int part) {
        return story.hasPart(part) ? current().openingYear(part) : NO_SUCH;
    }

    public int how(int part) {
        if (!story.hasPart(part)) {
            return NO_SUCH;
        }
        Course course = current();
        if (course.openingYear(part) == NONE) {
            return 0;
        }
        return hasBit(course.ofThemselves, part) ? 2 : 1;
    }

    public int read(int part) {
        return story.hasPart(part) ? current().readFor(part) : NO_SUCH;
    }

    public int reads(int year) {
        return story.hasWorkingYear(year) ? current().readIn(year) : NO_SUCH;
    }

    public int all() {
        return story.isTold() ? current().readInAll() : NO_SUCH;
    }

    public int keeps(int part, int year) {
        return hasPartAndYear(part, year) ? current().shutWorth(part, year) : NO_SUCH;
    }

    public int waits(int year) {
        if (!story.hasYear(year)) {
            return NO_SUCH;
        }
        int sum = 0;
        for (int part = 0; part < story.parts; part++) {
            sum += Math.max(0, current().shutWorth(part, year));
        }
        return sum;
    }

    public int next(int year) {
        if (!story.hasYear(year)) {
            return NO_SUCH;
        }
        int found = NONE;
        int most = NONE;
        for (int part = 0; part < story.parts; part++) {
            int worth = current().shutWorth(part, year);
            if (worth > most) {
                most = worth;
                found = part;
            }
        }
        return found;
    }

    public int dull(int year) {
        if (!story.hasYear(year)) {
            return NO_SUCH;
        }
        int bits = 0;
        for (int part = 0; part < story.parts; part++) {
            if (current().shutWorth(part, year) == 0) {
                bits |= 1 << part;
            }
        }
        return bits;
    }

    public int dies(int part) {
        if (!story.hasPart(part)) {
            return NO_SUCH;
        }
        for (int year = 0; year <= story.years; year++) {
            if (current().shutWorth(part, year) == 0) {
                return year;
            }
        }
        return NONE;
    }

    public int ages(int part) {
        if (!story.hasPart(part)) {
            return NO_AGE;
        }
        return current().stiffness(part, story.years) - story.toldStiff[part];
    }

    public int best(int part) {
        if (!story.hasPart(part)) {
            return NO_SUCH;
        }
        int most = 0;
        for (int year = 0; year <= story.years; year++) {
            most = Math.max(most, current().shutWorth(part, year));
        }
        return most;
    }

    public int lone(int year) {
        if (!story.hasYear(year)) {
            return NO_SUCH;
        }
        int open = current().openIn(year);
        int bits = 0;
        for (int part = 0; part < story.parts; part++) {
            int neighbours = story.neighbours(part, NONE);
            if (!hasBit(open, part) && neighbours != 0 && (neighbours & ~open) == 0) {
                bits |= 1 << part;
            }
        }
        return bits;
    }

    public int stalest(int year) {
        if (!story.hasYear(year)) {
            return NO_SUCH;
        }
        int open = current().openIn(year);
        int found = NONE;
        int most = NONE;
        for (int part = 0; part < story.parts; part++) {
            int stiffness = hasBit(open, part) ? NONE : current().stiffness(part, year);
            if (stiffness > most) {
                most = stiffness;
                found = part;
            }
        }
        return found;
    }

    // ---- folds cut, knives that open ----

    public int cut(int year) {
        if (!story.hasYear(year)) {
            return NO_SUCH;
        }
        int open = current().openIn(year);
        int bits = 0;
        for (int fold = 0; fold < story.folds; fold++) {
            if (hasBit(open, story.foldFrom[fold]) || hasBit(open, story.foldTo[fold])) {
                bits |= 1 << fold;
            }
        }
        return bits;
    }

    public int sharp() {
        return story.isTold() ? openingKnives() : NO_SUCH;
    }

    public int idle() {
        if (!story.isTold()) {
            return NO_SUCH;
        }
        int opening = openingKnives();
        int bits = 0;
        for (int k = 0; k < story.knives; k++) {
            if (story.hasWorkingYear(story.knifeYear[k]) && !hasBit(opening, k)) {
                bits |= 1 << k;
            }
        }
        return bits;
    }

    // ---- over all years ----

    public int uncut() {
        return story.isTold() ? shutAtLast() : NO_SUCH;
    }

    public int done() {
        if (!story.isTold()) {
            return NO_SUCH;
        }
        for (int year = 0; year <= story.years && story.parts > 0; year++) {
            if (current().openIn(year) == story.everyPart()) {
                return year;
            }
        }
        return NONE;
    }

    public int rush() {
        if (!story.isTold()) {
            return NO_SUCH;
        }
        int most = 0;
        for (int year = 0; year < story.years; year++) {
            most = Math.max(most, openedIn(year));
        }
        return most;
    }

    public int with(int part) {
        if (!story.hasPart(part)) {
            return NO_SUCH;
        }
        Course course = current();
        int year = course.openingYear(part);
        if (year == NONE) {
            return 0;
        }
        return course.ofThemselves & course.openIn(year + 1) & ~course.openIn(year);
    }

    public int charms() {
        if (!story.isTold()) {
            return NO_SUCH;
        }
        int shut = shutAtLast();
        int sum = 0;
        for (int part = 0; part < story.parts; part++) {
            sum += hasBit(shut, part) ? story.charm[part] : 0;
        }
        return sum;
    }

    public int peak() {
        if (!story.isTold()) {
            return NO_SUCH;
        }
        int found = 0;
        int most = NONE;
        for (int year = 0; year < story.years; year++) {
            int sum = current().readIn(year);
            if (sum > most) {
                most = sum;
                found = year;
            }
        }
        return found;
    }

    public int first() {
        if (!story.isTold()) {
            return NO_SUCH;
        }
        for (int year = 0; year < story.years; year++) {
            if (openedIn(year) > 0) {
                return year;
            }
        }
        return NONE;
    }

    public int quiet() {
        if (!story.isTold()) {
            return NO_SUCH;
        }
        int years = 0;
        for (int year = 0; year < story.years; year++) {
            years += openedIn(year) == 0 ? 1 : 0;
        }
        return years;
    }

    public int lost() {
        if (!story.isTold()) {
            return NO_SUCH;
        }
        int sum = 0;
        for (int part = 0; part < story.parts; part++) {
            int read = current().readFor(part);
            sum += read == NONE ? 0 : story.charm[part] - read;
        }
        return sum;
    }

    // ---- sets opened at once, shares ----

    public int few() {
        return story.isTold() ? Integer.bitCount(fewest()) : NO_SUCH;
    }

    public int fews() {
        return story.isTold() ? fewest() : NO_SUCH;
    }

    public int worth(int set) {
        if (!story.isTold() || set < 0 || set > story.everyPart()) {
            return NO_SUCH;
        }
        trial.begin(NONE);
        return setWorth(set);
    }

    public int share(int part, int what) {
        if (!story.hasPart(part) || !isAboveOrBelow(what)) {
            return NO_SHARE;
        }
        trial.begin(NONE);
        long sum = 0;
        for (int set = 0; set <= story.everyPart(); set++) {
            if (!hasBit(set, part)) {
                int ahead = Integer.bitCount(set);
                long orders = (long) factorial(ahead) * factorial(story.parts - 1 - ahead);
                sum += orders * (setWorth(set | 1 << part) - setWorth(set));
            }
        }
        return (int) lowestTerms(sum, factorial(story.parts), what);
    }

    // ---- plans ----

    public int plan(int n) {
        if (!hasPlan(n)) {
            return NO_SUCH;
        }
        planFor(n);
        return planner.most;
    }

    public int planned(int n, int k) {
        if (!hasPlan(n) || k < 0 || k >= n) {
            return NO_SUCH;
        }
        planFor(n);
        return planner.firstRow[k];
    }

    public int plans(int n) {
        if (!hasPlan(n)) {
            return NO_SUCH;
        }
        planFor(n);
        return planner.rows;
    }

    // ---- what was seen ----

    public int stiffs(int slot, int part) {
        int refusal = refuseSeenOf(slot, part);
        return refusal == 0 ? guess.howMany(slot, part, current()) : refusal;
    }

    public int low(int slot, int part) {
        int refusal = refuseSeenOf(slot, part);
        if (refusal != 0) {
            return refusal;
        }
        guess.howMany(slot, part, current());
        return guess.least();
    }

    public int high(int slot, int part) {
        int refusal = refuseSeenOf(slot, part);
        if (refusal != 0) {
            return refusal;
        }
        guess.howMany(slot, part, current());
        return guess.greatest();
    }

    public int ask(int slot, int part) {
        int refusal = refuseSeenOf(slot, part);
        if (refusal != 0) {
            return refusal;
        }
        guess.choose(slot, part, current());
        return guess.askedYear;
    }

    public int leaves(int slot, int part) {
        int refusal = refuseSeenOf(slot, part);
        if (refusal != 0) {
            return refusal;
        }
        guess.choose(slot, part, current());
        return guess.left;
    }

    public int laws(int slot) {
        int refusal = story.isTold() ? refuseSeen(slot) : NO_SUCH;
        if (refusal != 0) {
            return refusal;
        }
        asNow(story.everyKnife());
        int bits = 0;
        for (int law = 0; law < LAWS; law++) {
            trial.law = law;
            if (guess.isAsSeen(slot, NONE, trial)) {
                bits |= 1 << law;
            }
        }
        return bits;
    }

    // ---- by another law, with a knife or a fold less ----

    public int by(int law) {
        return story.isTold() && law >= 0 && law < LAWS ? readByLaw(law) : NO_SUCH;
    }

    public int law() {
        if (!story.isTold()) {
            return NO_SUCH;
        }
        int found = 0;
        int most = NONE;
        for (int law = 0; law < LAWS; law++) {
            int sum = readByLaw(law);
            if (sum > most) {
                most = sum;
                found = law;
            }
        }
        return found;
    }

    public int blunt() {
        if (!story.isTold()) {
            return NO_SUCH;
        }
        int found = NONE;
        int most = current().readInAll();
        for (int k = 0; k < story.knives; k++) {
            asNow(story.everyKnife() & ~(1 << k));
            int sum = trial.readInAll();
            if (sum > most) {
                most = sum;
                found = k;
            }
        }
        return found;
    }

    public int slit() {
        if (!story.isTold()) {
            return NO_SUCH;
        }
        int found = NONE;
        int most = current().readInAll();
        for (int fold = 0; fold < story.folds; fold++) {
            trial.begin(fold);
            trial.unfoldWith(story.everyKnife());
            int sum = trial.readInAll();
            if (sum > most) {
                most = sum;
                found = fold;
            }
        }
        return found;
    }

    // ---- the uncle and the ear ----

    public int uncle() {
        if (story.parts == 0) {
            return NO_GAME;
        }
        trial.begin(NONE);
        int most = uncleWorth(0);
        for (int part = 1; part < story.parts; part++) {
            most = Math.max(most, uncleWorth(part));
        }
        return most;
    }

    public int opens() {
        if (!story.isTold()) {
            return NO_SUCH;
        }
        trial.begin(NONE);
        int found = NONE;
        int most = 0;
        for (int part = 0; part < story.parts; part++) {
            int worth = uncleWorth(part);
            if (found == NONE || worth > most) {
                most = worth;
                found = part;
            }
        }
        return found;
    }

    public int replies(int part) {
        if (!story.hasPart(part)) {
            return NO_SUCH;
        }
        trial.begin(NONE);
        return earChoice(part);
    }

    // ---- two that are sewn ----

    public int rests(int part, int other) {
        if (!isPair(part, other)) {
            return NO_SUCH;
        }
        int bits = 0;
        for (int sewn = 0; sewn < 2; sewn++) {
            for (int otherSewn = 0; otherSewn < 2; otherSewn++) {
                boolean content = sewnGets(part, other, sewn, otherSewn)
                        >= sewnGets(part, other, 1 - sewn, otherSewn);
                boolean otherContent = sewnGets(other, part, otherSewn, sewn)
                        >= sewnGets(other, part, 1 - otherSewn, sewn);
                if (content && otherContent) {
                    bits |= 1 << (sewn + 2 * otherSewn);
                }
            }
        }
        return bits;
    }

    public int gets(int part, int other, int sewn, int otherSewn) {
        if (!isPair(part, other) || !isChoice(sewn) || !isChoice(otherSewn)) {
            return NO_GAME;
        }
        return sewnGets(part, other, sewn, otherSewn);
    }

    // ---- chance, draws ----

    public int chance(int part, int what) {
        if (!story.hasPart(part) || !isAboveOrBelow(what)) {
            return NO_SUCH;
        }
        weighOdds();
        return (int) lowestTerms(odds.openWeight[part], odds.whole, what);
    }

    public long mean(int what) {
        if (!story.isTold() || !isAboveOrBelow(what)) {
            return NO_SUCH;
        }
        weighOdds();
        return lowestTerms(odds.readWeight, odds.whole, what);
    }

    public int drawn(int seed, int what) {
        if (!story.isTold() || !isSeed(seed) || (what != 0 && what != 1)) {
            return NO_SUCH;
        }
        int come = knivesDrawn(seed);
        if (what == 0) {
            return come;
        }
        asNow(come);
        return trial.openIn(story.years);
    }

    public int luck(int seed, int n, int part) {
        if (!story.hasPart(part) || !isSeed(seed) || n < 1 || n > MOST_LUCK) {
            return NO_SUCH;
        }
        int times = 0;
        for (int i = 0; i < n; i++) {
            asNow(knivesDrawn((long) seed + i));
            times += hasBit(trial.openIn(story.years), part) ? 1 : 0;
        }
        return times;
    }

    // ---- acts ----

    public int knife(int part, int year) {
        int refusal = refuseAct(part, year);
        if (refusal != 0) {
            return refusal;
        }
        story.addAct(KNIFE, part, year);
        forgetAnswers();
        return current().readInAll();
    }

    public int air(int part, int year) {
        int refusal = refuseAct(part, year);
        if (refusal != 0) {
            return refusal;
        }
        story.addAct(AIR, part, year);
        forgetAnswers();
        return current().stiffness(part, story.years);
    }

    public int undo() {
        if (!story.isTold()) {
            return NO_SUCH;
        }
        if (story.acts == 0) {
            return ACTS_FORBID;
        }
        story.acts--;
        forgetAnswers();
        return story.acts;
    }

    public int anew() {
        if (!story.isTold()) {
            return NO_SUCH;
        }
        int acts = story.acts;
        story.acts = 0;
        forgetAnswers();
        return acts;
    }

    public int rate(int part, int n) {
        if (!story.hasPart(part) || n < 0 || n > MOST_CHARM) {
            return NO_SUCH;
        }
        if (story.acts > 0) {
            return ACTS_FORBID;
        }
        int charm = story.charm[part];
        story.charm[part] = n;
        forgetAnswers();
        return charm;
    }

    // ---- images ----

    public int image(int k) {
        if (k < 0 || k >= IMAGES) {
            return NO_SUCH;
        }
        images[k].become(story);
        imaged[k] = true;
        return 0;
    }

    public int back(int k) {
        if (k < 0 || k >= IMAGES) {
            return NO_SUCH;
        }
        if (!imaged[k]) {
            return HAS_NOTHING;
        }
        story.become(images[k]);
        forgetAnswers();
        return 0;
    }

    // ---- slots ----

    public int row(int slot, int width, int n) {
        if (!slots.isSlot(slot) || width < 0 || width >= WIDTHS || n > LONGEST_ROW) {
            return NO_SUCH;
        }
        if (n < 0) {
            return BELOW_NOTHING;
        }
        slots.lay(slot, width, n);
        return 0;
    }

    public int write(int slot, int i, long v) {
        if (!slots.isSlot(slot)) {
            return NO_SUCH;
        }
        if (slots.isBare(slot)) {
            return HAS_NOTHING;
        }
        if (!slots.covers(slot, i, 1)) {
            return NO_NUMBER;
        }
        slots.put(slot, i, v);
        return 0;
    }

    public int paste(int slot, int i, int to, int k, int n) {
        if (!slots.isSlot(slot) || !slots.isSlot(to)) {
            return NO_SUCH;
        }
        if (slots.isBare(slot) || slots.isBare(to)) {
            return HAS_NOTHING;
        }
        if (!slots.areOfOneWidth(slot, to)) {
            return OTHER_WIDTH;
        }
        if (!slots.covers(slot, i, n) || !slots.covers(to, k, n)) {
            return NO_NUMBER;
        }
        slots.move(slot, i, to, k, n);
        return 0;
    }

    // ---- what the calls share ----

    private static boolean hasBit(int bits, int i) {
        return (bits >> i & 1) == 1;
    }

    private static boolean isAboveOrBelow(int what) {
        return what == 0 || what == 1;
    }

    private static boolean isChoice(int sewn) {
        return sewn == 0 || sewn == 1;
    }

    private static boolean isSeed(int seed) {
        return seed >= 0 && seed <= MOST_SEED;
    }

    private static int factorial(int n) {
        return n >= 0 && n < FACTORIALS.length ? FACTORIALS[n] : 1;
    }

    private static long lowestTerms(long above, long below, int what) {
        long divisor = Math.max(1, greatestDivisor(Math.abs(above), below));
        return (what == 0 ? above : below) / divisor;
    }

    private static long greatestDivisor(long a, long b) {
        long larger = a;
        long smaller = b;
        for (int step = 0; step < 200 && smaller != 0; step++) {
            long rest = larger % smaller;
            larger = smaller;
            smaller = rest;
        }
        return larger;
    }

    private void forgetAnswers() {
        nowIsStale = true;
        oddsAreStale = true;
        plannedYears = 0;
    }

    private Course current() {
        if (nowIsStale) {
            now.begin(NONE);
            now.unfoldWith(story.everyKnife());
            nowIsStale = false;
        }
        return now;
    }

    private void asNow(int toldKnives) {
        trial.begin(NONE);
        trial.unfoldWith(toldKnives);
    }

    private boolean hasPartAndYear(int part, int year) {
        return story.hasPart(part) && story.hasYear(year);
    }

    private boolean isPair(int part, int other) {
        return story.hasPart(part) && story.hasPart(other) && part != other;
    }

    private int shutAtLast() {
        return story.everyPart() & ~current().openIn(story.years);
    }

    private int openedIn(int year) {
        return Integer.bitCount(current().openIn(year + 1) & ~current().openIn(year));
    }

    private int openingKnives() {
        int bits = 0;
        int credited = 0;
        for (int k = 0; k < story.knives; k++) {
            if (opensAnew(story.knifePart[k], story.knifeYear[k], credited)) {
                credited |= 1 << story.knifePart[k];
                bits |= 1 << k;
            }
        }
        int number = story.knives;
        for (int a = 0; a < story.acts; a++) {
            if (story.actKind[a] == KNIFE) {
                if (opensAnew(story.actPart[a], story.actYear[a], credited)) {
                    credited |= 1 << story.actPart[a];
                    bits |= 1 << number;
                }
                number++;
            }
        }
        return bits;
    }

    /** Of several KNIVES that come to a PART in the YEAR it opens, only the first finds it shut. */
    private boolean opensAnew(int part, int year, int credited) {
        return !hasBit(credited, part) && current().openingYear(part) == year
                && !hasBit(current().ofThemselves, part);
    }

    /** No PART opens behind YEAR 0 without a KNIFE, so what settles at once is all that opens. */
    private int fewest() {
        trial.begin(NONE);
        int found = story.everyPart();
        for (int set = 0; set <= story.everyPart(); set++) {
            boolean opensAll = trial.settle(set) == story.everyPart();
            if (opensAll && Integer.bitCount(set) < Integer.bitCount(found)) {
                found = set;
            }
        }
        return found;
    }

    private int setWorth(int set) {
        trial.unfoldBy(set, 0);
        return trial.readInAll();
    }

    private boolean hasPlan(int n) {
        return story.isTold() && n >= 1 && n <= MOST_PLANNED && n <= story.years;
    }

    private void planFor(int n) {
        if (plannedYears != n) {
            planner.search(n);
            plannedYears = n;
        }
    }

    private int refuseSeenOf(int slot, int part) {
        return story.hasPart(part) ? refuseSeen(slot) : NO_SUCH;
    }

    private int refuseSeen(int slot) {
        if (!slots.isSlot(slot)) {
            return NO_SUCH;
        }
        if (slots.isBare(slot)) {
            return HAS_NOTHING;
        }
        return guess.isSeenRow(slot) ? 0 : NO_SUCH;
    }

    private int refuseAct(int part, int year) {
        if (!story.hasPart(part) || !story.hasWorkingYear(year)) {
            return NO_SUCH;
        }
        return story.acts < MOST_ACTS ? 0 : ACTS_FORBID;
    }

    private int readByLaw(int law) {
        asNow(story.everyKnife());
        trial.law = law;
        return trial.readInAll();
    }

    private int uncleWorth(int part) {
        int reply = earChoice(part);
        trial.unfoldBy(1 << part, reply == NONE ? 0 : 1 << reply);
        return trial.readIn(0) - trial.readIn(1);
    }

    private int earChoice(int part) {
        if (!story.hasWorkingYear(1)) {
            return NONE;
        }
        int open = trial.settle(1 << part);
        int found = NONE;
        int most = NONE;
        for (int other = 0; other < story.parts; other++) {
            if (!hasBit(open, other)) {
                trial.unfoldBy(1 << part, 1 << other);
                int sum = trial.readIn(1);
                if (sum > most) {
                    most = sum;
                    found = other;
                }
            }
        }
        return found;
    }

    private int sewnGets(int part, int other, int sewn, int otherSewn) {
        trial.begin(NONE);
        trial.sewn = sewn << part | otherSewn << other;
        trial.unfoldWith(story.everyKnife());
        return Math.max(0, trial.readFor(part)) + SEWN_GETS * sewn;
    }

    private void weighOdds() {
        if (oddsAreStale) {
            odds.weigh();
            oddsAreStale = false;
        }
    }

    private int knivesDrawn(long seed) {
        long x = seed;
        int bits = 0;
        for (int k = 0; k < story.knives; k++) {
            x = (1103515245L * x + 12345L) % 2147483648L;
            if (x / 65536L % 10L < story.odds) {
                bits |= 1 << k;
            }
        }
        return bits;
    }

    /** The bytes that were fed and are not a TALE yet. */
    private static final class Tape {
        final byte[] bytes = new byte[LONGEST_TAPE];
        int length;

        boolean hasRoomForFive() {
            return length + 20 <= LONGEST_TAPE;
        }

        void append(int number) {
            for (int shift = 24; shift >= 0 && length < LONGEST_TAPE; shift -= 8) {
                bytes[length] = (byte) (number >> shift);
                length++;
            }
        }

        int at(int place) {
            return place >= 0 && place < length ? bytes[place] & 255 : NONE;
        }
    }

    /** Makes a draft of the TAPE; of a faulty one only the FAULT is of use. */
    private static final class Parser {
        static final int END = 0;
        static final int WORD = 1;
        static final int NUMBER = 2;
        static final int SIGN = 3;
        static final int NO_TOKEN = 4;
        static final int OUT_OF_PLACE = 1;
        static final int OUT_OF_BOUNDS = 2;
        static final int TOO_MANY = 3;
        static final int ABOVE_ALL_BOUNDS = 1000;

        final Tape tape;
        final Story draft;
        int kind;
        int start;
        int stop;
        int value;
        int fault;
        int faultPlace = NONE;

        Parser(Tape tape, Story draft) {
            this.tape = tape;
            this.draft = draft;
        }

        boolean parse() {
            draft.clear();
            fault = 0;
            faultPlace = NONE;
            stop = 0;
            advance();
            for (int line = 0; line < LONGEST_TAPE && kind != END; line++) {
                if (!takeLine()) {
                    return false;
                }
                draft.lines++;
            }
            return true;
        }

        private boolean takeLine() {
            boolean good;
            if (draft.lines == 0) {
                good = takeHead();
            } else if (isWord("part")) {
                good = takePart();
            } else if (isWord("fold")) {
                good = takeFold();
            } else if (isWord("knife")) {
                good = takeKnife();
            } else {
                good = refuse(OUT_OF_PLACE);
            }
            return good && takeSign();
        }

        private boolean takeHead() {
            takeWord("tale");
            draft.years = takeNamed("years", 1, MOST_YEARS);
            draft.law = takeNamed("law", 0, LAWS - 1);
            draft.odds = takeNamed("odds", 0, ODDS_OF);
            return fault == 0;
        }

        private boolean takePart() {
            if (draft.parts >= MOST_PARTS) {
                return refuse(TOO_MANY);
            }
            advance();
            int charm = takeNamed("charm", 0, MOST_CHARM);
            int tires = takeNamed("tires", 0, MOST_TIRES);
            int stiff = isWord("stiff") ? takeNamed("stiff", 1, MOST_TOLD_STIFF) : 0;
            if (fault == 0) {
                draft.addPart(charm, tires, stiff);
            }
            return fault == 0;
        }

        private boolean takeFold() {
            if (draft.folds >= MOST_FOLDS) {
                return refuse(TOO_MANY);
            }
            advance();
            int from = takeNumber(0, draft.parts - 1);
            if (fault == 0 && kind == NUMBER && (value == from || draft.areJoined(from, value))) {
                return refuse(OUT_OF_BOUNDS);
            }
            int to = takeNumber(0, draft.parts - 1);
            if (fault == 0) {
                draft.addFold(from, to);
            }
            return fault == 0;
        }

        private boolean takeKnife() {
            if (draft.knives >= MOST_KNIVES) {
                return refuse(TOO_MANY);
            }
            advance();
            int part = takeNumber(0, draft.parts - 1);
            int year = takeNamed("at", 0, MOST_YEARS - 1);
            if (fault == 0) {
                draft.addKnife(part, year);
            }
            return fault == 0;
        }

        private boolean takeSign() {
            if (kind != SIGN) {
                return refuse(OUT_OF_PLACE);
            }
            advance();
            return true;
        }

        private int takeNamed(String name, int least, int most) {
            takeWord(name);
            return takeNumber(least, most);
        }

        private void takeWord(String word) {
            if (isWord(word)) {
                advance();
            } else {
                refuse(OUT_OF_PLACE);
            }
        }

        private int takeNumber(int least, int most) {
            if (fault != 0) {
                return NONE;
            }
            if (kind != NUMBER || value < least || value > most) {
                refuse(kind == NUMBER ? OUT_OF_BOUNDS : OUT_OF_PLACE);
                return NONE;
            }
            int taken = value;
            advance();
            return taken;
        }

        /** Only the first counts: the TOKENS behind a FAULT are not looked at as they were meant. */
        private boolean refuse(int what) {
            if (fault == 0) {
                fault = what;
                faultPlace = start;
            }
            return false;
        }

        private void advance() {
            start = stop;
            while (start < tape.length && (tape.at(start) == ' ' || tape.at(start) == '\n')) {
                start++;
            }
            kind = kindOf(tape.at(start));
            stop = kind == END ? start : start + 1;
            boolean isLong = kind == WORD || kind == NUMBER;
            while (isLong && stop < tape.length && kindOf(tape.at(stop)) == kind) {
                stop++;
            }
            value = 0;
            for (int i = start; kind == NUMBER && i < stop; i++) {
                value = Math.min(ABOVE_ALL_BOUNDS, value * 10 + tape.at(i) - '0');
            }
        }

        private boolean isWord(String word) {
            if (kind != WORD || fault != 0 || stop - start != word.length()) {
                return false;
            }
            for (int i = 0; i < word.length(); i++) {
                if (tape.at(start + i) != word.charAt(i)) {
                    return false;
                }
            }
            return true;
        }

        private static int kindOf(int sign) {
            if (sign >= 'a' && sign <= 'z') {
                return WORD;
            }
            if (sign >= '0' && sign <= '9') {
                return NUMBER;
            }
            if (sign == ';') {
                return SIGN;
            }
            return sign == NONE ? END : NO_TOKEN;
        }
    }

    /** A TALE as told, and the acts on it; without LINES there is none. */
    private static final class Story {
        final int[] charm = new int[MOST_PARTS];
        final int[] tires = new int[MOST_PARTS];
        final int[] toldStiff = new int[MOST_PARTS];
        final int[] foldFrom = new int[MOST_FOLDS];
        final int[] foldTo = new int[MOST_FOLDS];
        final int[] knifePart = new int[MOST_KNIVES];
        final int[] knifeYear = new int[MOST_KNIVES];
        final int[] actKind = new int[MOST_ACTS];
        final int[] actPart = new int[MOST_ACTS];
        final int[] actYear = new int[MOST_ACTS];
        int years;
        int law;
        int odds;
        int parts;
        int folds;
        int knives;
        int acts;
        int lines;

        void clear() {
            years = 0;
            law = 0;
            odds = 0;
            parts = 0;
            folds = 0;
            knives = 0;
            acts = 0;
            lines = 0;
        }

        void become(Story other) {
            years = other.years;
            law = other.law;
            odds = other.odds;
            parts = other.parts;
            folds = other.folds;
            knives = other.knives;
            acts = other.acts;
            lines = other.lines;
            System.arraycopy(other.charm, 0, charm, 0, MOST_PARTS);
            System.arraycopy(other.tires, 0, tires, 0, MOST_PARTS);
            System.arraycopy(other.toldStiff, 0, toldStiff, 0, MOST_PARTS);
            System.arraycopy(other.foldFrom, 0, foldFrom, 0, MOST_FOLDS);
            System.arraycopy(other.foldTo, 0, foldTo, 0, MOST_FOLDS);
            System.arraycopy(other.knifePart, 0, knifePart, 0, MOST_KNIVES);
            System.arraycopy(other.knifeYear, 0, knifeYear, 0, MOST_KNIVES);
            System.arraycopy(other.actKind, 0, actKind, 0, MOST_ACTS);
            System.arraycopy(other.actPart, 0, actPart, 0, MOST_ACTS);
            System.arraycopy(other.actYear, 0, actYear, 0, MOST_ACTS);
        }

        void addPart(int charmTold, int tiresTold, int stiffTold) {
            if (parts < MOST_PARTS) {
                charm[parts] = charmTold;
                tires[parts] = tiresTold;
                toldStiff[parts] = stiffTold;
                parts++;
            }
        }

        void addFold(int from, int to) {
            if (folds < MOST_FOLDS) {
                foldFrom[folds] = from;
                foldTo[folds] = to;
                folds++;
            }
        }

        void addKnife(int part, int year) {
            if (knives < MOST_KNIVES) {
                knifePart[knives] = part;
                knifeYear[knives] = year;
                knives++;
            }
        }

        void addAct(int kind, int part, int year) {
            if (acts < MOST_ACTS) {
                actKind[acts] = kind;
                actPart[acts] = part;
                actYear[acts] = year;
                acts++;
            }
        }

        boolean isTold() {
            return lines > 0;
        }

        boolean hasPart(int part) {
            return part >= 0 && part < parts;
        }

        boolean hasYear(int year) {
            return isTold() && year >= 0 && year <= years;
        }

        /** Nothing happens in the last YEAR. */
        boolean hasWorkingYear(int year) {
            return year >= 0 && year < years;
        }

        int everyPart() {
            return (1 << parts) - 1;
        }

        int everyKnife() {
            return (1 << knives) - 1;
        }

        boolean areJoined(int part, int other) {
            for (int fold = 0; fold < folds; fold++) {
                boolean there = foldFrom[fold] == part && foldTo[fold] == other;
                boolean thence = foldFrom[fold] == other && foldTo[fold] == part;
                if (there || thence) {
                    return true;
                }
            }
            return false;
        }

        int neighbours(int part, int withoutFold) {
            int bits = 0;
            for (int fold = 0; fold < folds; fold++) {
                if (fold != withoutFold && foldFrom[fold] == part) {
                    bits |= 1 << foldTo[fold];
                }
                if (fold != withoutFold && foldTo[fold] == part) {
                    bits |= 1 << foldFrom[fold];
                }
            }
            return bits;
        }

        int spread(int set) {
            int bits = set;
            for (int part = 0; part < parts; part++) {
                if (hasBit(set, part)) {
                    bits |= neighbours(part, NONE);
                }
            }
            return bits;
        }

        int joinedWith(int part) {
            int set = 1 << part;
            for (int step = 1; step < MOST_PARTS; step++) {
                set = spread(set);
            }
            return set;
        }
    }

    /**
     * What comes of a TALE by some KNIVES. Which PARTS open when never hangs on how STIFF they are, so the
     * openings are unfolded once, and how STIFF a PART is follows from them when it is asked.
     */
    private static final class Course {
        final Story story;
        final int[] near = new int[MOST_PARTS];
        final int[] airings = new int[MOST_PARTS * MOST_YEARS];
        final int[] toCut = new int[MOST_YEARS];
        final int[] open = new int[MOST_YEARS + 1];
        final int[] openedAt = new int[MOST_PARTS];
        final int[] trace = new int[MOST_YEARS + 1];
        int law;
        int sewn;
        int ofThemselves;

        Course(Story story) {
            this.story = story;
        }

        void begin(int withoutFold) {
            law = story.law;
            sewn = 0;
            for (int part = 0; part < story.parts; part++) {
                near[part] = story.neighbours(part, withoutFold);
            }
            Arrays.fill(airings, 0);
            for (int a = 0; a < story.acts; a++) {
                if (story.actKind[a] == AIR) {
                    airings[story.actYear[a] * MOST_PARTS + story.actPart[a]]++;
                }
            }
        }

        /** KNIVES told come as the bits say, those of acts all. */
        void unfoldWith(int toldKnives) {
            Arrays.fill(toCut, 0);
            for (int k = 0; k < story.knives; k++) {
                if (hasBit(toldKnives, k)) {
                    toCut[story.knifeYear[k]] |= 1 << story.knifePart[k];
                }
            }
            for (int a = 0; a < story.acts; a++) {
                if (story.actKind[a] == KNIFE) {
                    toCut[story.actYear[a]] |= 1 << story.actPart[a];
                }
            }
            unfold();
        }

        /** In place of all KNIVES, sets of PARTS are opened in YEARS 0 and 1. */
        void unfoldBy(int set, int nextSet) {
            Arrays.fill(toCut, 0);
            toCut[0] = set;
            toCut[1] = nextSet;
            unfold();
        }

        private void unfold() {
            Arrays.fill(openedAt, NONE);
            ofThemselves = 0;
            open[0] = 0;
            for (int year = 0; year < story.years; year++) {
                int before = open[year];
                int cut = before | toCut[year];
                int after = cut == before ? before : settle(cut);
                ofThemselves |= after & ~cut;
                noteOpenings(after & ~before, year);
                open[year + 1] = after;
            }
        }

        private void noteOpenings(int opened, int year) {
            for (int part = 0; part < story.parts && opened != 0; part++) {
                if (hasBit(opened, part)) {
                    openedAt[part] = year;
                }
            }
        }

        /** One round does: what opens of itself has no shut NEIGHBOUR that it could help to open. */
        int settle(int opened) {
            int bits = opened;
            for (int part = 0; part < story.parts; part++) {
                if (!hasBit(opened | sewn, part) && near[part] != 0 && (near[part] & ~opened) == 0) {
                    bits |= 1 << part;
                }
            }
            return bits;
        }

        int openIn(int year) {
            return year >= 0 && year <= MOST_YEARS ? open[year] : 0;
        }

        int openingYear(int part) {
            return openedAt[part];
        }

        int stiffness(int part, int year) {
            return follow(part, story.toldStiff[part], year);
        }

        /** How STIFF a PART is in a YEAR (and, in trace, up to it), had it been told as STIFF as given. */
        int follow(int part, int told, int lastYear) {
            int stiff = told;
            trace[0] = stiff;
            for (int year = 0; year < lastYear && year < MOST_YEARS; year++) {
                if (!hasBit(open[year], part)) {
                    stiff = aired(part, stiff, year);
                    if (!hasBit(open[year + 1], part)) {
                        stiff = waited(part, stiff, open[year + 1]);
                    }
                }
                trace[year + 1] = stiff;
            }
            return stiff;
        }

        int aired(int part, int stiff, int year) {
            return Math.max(0, stiff - AIRING * airings[year * MOST_PARTS + part]);
        }

        int waited(int part, int stiff, int opened) {
            int tires = story.tires[part];
            switch (law) {
                case 1: return Math.min(MOST_STIFF, stiff + tires + Integer.bitCount(near[part] & opened));
                case 2: return Math.min(MOST_STIFF, stiff + tires + stiff);
                case 3: return (near[part] & ~opened) == 0 ? Math.min(MOST_STIFF, stiff + tires) : stiff;
                default: return Math.min(MOST_STIFF, stiff + tires);
            }
        }

        int readFor(int part) {
            int year = openedAt[part];
            if (year == NONE) {
                return NONE;
            }
            return Math.max(0, story.charm[part] - follow(part, story.toldStiff[part], year + 1));
        }

        int readIn(int year) {
            int sum = 0;
            for (int part = 0; part < story.parts; part++) {
                sum += openedAt[part] == year ? readFor(part) : 0;
            }
            return sum;
        }

        int readInAll() {
            int sum = 0;
            for (int part = 0; part < story.parts; part++) {
                sum += Math.max(0, readFor(part));
            }
            return sum;
        }

        int shutWorth(int part, int year) {
            if (hasBit(open[year], part)) {
                return NONE;
            }
            return Math.max(0, story.charm[part] - follow(part, story.toldStiff[part], year));
        }
    }

    /** Goes through all rows of a PLAN, the least first, and keeps what each YEAR of the row at hand began with. */
    private static final class Planner {
        static final int MOST_STEPS = 1000000;

        final Story story;
        final Course course;
        final int[][] stiff = new int[MOST_PLANNED + 1][MOST_PARTS];
        final int[] open = new int[MOST_PLANNED + 1];
        final int[] read = new int[MOST_PLANNED + 1];
        final int[] choice = new int[MOST_PLANNED];
        final int[] firstRow = new int[MOST_PLANNED];
        int most;
        int rows;

        Planner(Story story, Course course) {
            this.story = story;
            this.course = course;
        }

        void search(int years) {
            course.begin(NONE);
            most = NONE;
            rows = 0;
            System.arraycopy(story.toldStiff, 0, stiff[0], 0, MOST_PARTS);
            int year = 0;
            choice[0] = NONE - 1;
            for (int step = 0; step < MOST_STEPS && year >= 0; step++) {
                choice[year]++;
                if (choice[year] >= story.parts) {
                    year--;
                } else if (choice[year] == NONE || !hasBit(open[year], choice[year])) {
                    spend(year);
                    if (year + 1 < years) {
                        year++;
                        choice[year] = NONE - 1;
                    } else {
                        compare(years);
                    }
                }
            }
        }

        private void spend(int year) {
            int before = open[year];
            int after = choice[year] == NONE ? before : course.settle(before | 1 << choice[year]);
            int sum = read[year];
            for (int part = 0; part < story.parts; part++) {
                if (!hasBit(before, part)) {
                    int aired = course.aired(part, stiff[year][part], year);
                    if (hasBit(after, part)) {
                        sum += Math.max(0, story.charm[part] - aired);
                    } else {
                        stiff[year + 1][part] = course.waited(part, aired, after);
                    }
                }
            }
            open[year + 1] = after;
            read[year + 1] = sum;
        }

        private void compare(int years) {
            if (read[years] > most) {
                most = read[years];
                rows = 0;
                System.arraycopy(choice, 0, firstRow, 0, years);
            }
            if (read[years] == most) {
                rows++;
            }
        }
    }

    /** How much, of the weight of all ways in which KNIVES told come or not, each answer has. */
    private static final class Odds {
        final Story story;
        final Course course;
        final long[] openWeight = new long[MOST_PARTS];
        long readWeight;
        long whole;

        Odds(Story story, Course course) {
            this.story = story;
            this.course = course;
        }

        void weigh() {
            course.begin(NONE);
            Arrays.fill(openWeight, 0L);
            readWeight = 0;
            whole = 0;
            for (int come = 0; come <= story.everyKnife(); come++) {
                long weight = weightOf(come);
                if (weight > 0) {
                    course.unfoldWith(come);
                    whole += weight;
                    readWeight += weight * course.readInAll();
                    addToOpen(weight);
                }
            }
        }

        private long weightOf(int come) {
            long weight = 1;
            for (int k = 0; k < story.knives; k++) {
                weight *= hasBit(come, k) ? story.odds : ODDS_OF - story.odds;
            }
            return weight;
        }

        private void addToOpen(long weight) {
            int open = course.openIn(story.years);
            for (int part = 0; part < story.parts; part++) {
                openWeight[part] += hasBit(open, part) ? weight : 0;
            }
        }
    }

    /** How STIFF a PART can have been told, by what a SLOT's row says was seen. */
    private static final class Guess {
        static final int STIFFS = MOST_STIFF + 1;

        final Story story;
        final Slots slots;
        final boolean[] fits = new boolean[MOST_TOLD_STIFF + 1];
        final int[] tally = new int[(MOST_YEARS + 1) * STIFFS];
        int askedYear;
        int left;

        Guess(Story story, Slots slots) {
            this.story = story;
            this.slots = slots;
        }

        boolean isSeenRow(int slot) {
            int size = slots.size(slot);
            for (int i = 0; i + 2 < size; i += 3) {
                long part = slots.number(slot, i);
                long year = slots.number(slot, i + 1);
                long stiff = slots.number(slot, i + 2);
                if (part < 0 || part >= story.parts || year < 0 || year > story.years
                        || stiff < 0 || stiff > MOST_STIFF) {
                    return false;
                }
            }
            return size % 3 == 0;
        }

        /** Whether a course shows what was seen, but for one PART (or NONE). */
        boolean isAsSeen(int slot, int exceptPart, Course course) {
            for (int i = 0; i + 2 < slots.size(slot); i += 3) {
                int part = (int) slots.number(slot, i);
                int year = (int) slots.number(slot, i + 1);
                if (part != exceptPart && course.stiffness(part, year) != slots.number(slot, i + 2)) {
                    return false;
                }
            }
            return true;
        }

        /** Other PARTS are as STIFF as now, however the one was told. */
        int howMany(int slot, int part, Course course) {
            boolean othersFit = isAsSeen(slot, part, course);
            int many = 0;
            for (int told = 0; told <= MOST_TOLD_STIFF; told++) {
                fits[told] = false;
                if (othersFit) {
                    course.follow(part, told, story.years);
                    fits[told] = isTraceAsSeen(slot, part, course);
                }
                many += fits[told] ? 1 : 0;
            }
            return many;
        }

        private boolean isTraceAsSeen(int slot, int part, Course course) {
            for (int i = 0; i + 2 < slots.size(slot); i += 3) {
                int year = (int) slots.number(slot, i + 1);
                if (slots.number(slot, i) == part && course.trace[year] != slots.number(slot, i + 2)) {
                    return false;
                }
            }
            return true;
        }

        int least() {
            for (int told = 0; told <= MOST_TOLD_STIFF; told++) {
                if (fits[told]) {
                    return told;
                }
            }
            return NONE;
        }

        int greatest() {
            for (int told = MOST_TOLD_STIFF; told >= 0; told--) {
                if (fits[told]) {
                    return told;
                }
            }
            return NONE;
        }

        void choose(int slot, int part, Course course) {
            left = howMany(slot, part, course);
            askedYear = NONE;
            tallyTraces(part, course);
            for (int year = 0; year <= story.years; year++) {
                int worst = worstIn(year);
                if (worst < left) {
                    left = worst;
                    askedYear = year;
                }
            }
        }

        private void tallyTraces(int part, Course course) {
            Arrays.fill(tally, 0);
            for (int told = 0; told <= MOST_TOLD_STIFF; told++) {
                if (fits[told]) {
                    course.follow(part, told, story.years);
                    for (int year = 0; year <= story.years; year++) {
                        tally[year * STIFFS + course.trace[year]]++;
                    }
                }
            }
        }

        private int worstIn(int year) {
            int worst = 0;
            for (int stiff = 0; stiff < STIFFS; stiff++) {
                worst = Math.max(worst, tally[year * STIFFS + stiff]);
            }
            return worst;
        }
    }

    /** Rows of numbers; a width of NONE: the SLOT has nothing. */
    private static final class Slots {
        final int[] widths = {NONE, NONE, NONE, NONE};
        final int[] sizes = new int[SLOTS];
        final long[] numbers = new long[SLOTS * LONGEST_ROW];

        boolean isSlot(int slot) {
            return slot >= 0 && slot < SLOTS;
        }

        boolean isBare(int slot) {
            return widths[slot] == NONE;
        }

        boolean areOfOneWidth(int slot, int other) {
            return widths[slot] == widths[other];
        }

        boolean covers(int slot, int i, int n) {
            return i >= 0 && n >= 0 && (long) i + n <= sizes[slot];
        }

        int filled() {
            int many = 0;
            for (int slot = 0; slot < SLOTS; slot++) {
                many += isBare(slot) ? 0 : 1;
            }
            return many;
        }

        int size(int slot) {
            return sizes[slot];
        }

        long number(int slot, int i) {
            return numbers[slot * LONGEST_ROW + i];
        }

        void lay(int slot, int width, int n) {
            widths[slot] = width;
            sizes[slot] = n;
            int from = slot * LONGEST_ROW;
            Arrays.fill(numbers, from, from + LONGEST_ROW, 0L);
        }

        void put(int slot, int i, long v) {
            numbers[slot * LONGEST_ROW + i] = cutTo(widths[slot], v);
        }

        private static long cutTo(int width, long v) {
            switch (width) {
                case 0: return (byte) v;
                case 1: return (short) v;
                case 2: return (int) v;
                default: return v;
            }
        }

        void move(int slot, int i, int to, int k, int n) {
            System.arraycopy(numbers, slot * LONGEST_ROW + i, numbers, to * LONGEST_ROW + k, n);
        }
    }
}
