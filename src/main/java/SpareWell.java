import java.util.NoSuchElementException;

/**
 * A land of people, skills, towns and work by months: who can be spared, and what follows from it.
 * The words are those of the document. Sets of people are bits of an int, the lowest bit person 0.
 * All rows are made once, in the constructors: no call makes anything but the exception it throws.
 */
public final class SpareWell {
    public static final int NONE = -1;

    private static final int TOWNS = 4;
    private static final int SKILLS = 8;
    private static final int YEAR = 12;
    private static final int MAX_PEOPLE = 12;
    private static final int MAX_SETS = 1 << MAX_PEOPLE;
    private static final int MAX_WORKS = 14;
    private static final int MAX_PIECES_OF_WORK = 4;
    private static final int MAX_BONDS = 8;
    private static final int MAX_STRENGTH = 9;
    private static final int MAX_HERO = 24;
    private static final int HERO_UNTOLD = 12;
    private static final int MAX_TEXT = 700;
    private static final int FEED_BYTES = 20;
    private static final int MAX_ACTS = 40;
    private static final int MAX_SEEN = 8;
    private static final int MAX_SENT = 4;
    private static final int MAX_GO_BY = 24;
    private static final int MAX_YEAR_MONTHS = 60;
    private static final int COUPLE = 100;
    private static final int PAIR = 10;

    private final LandReader reader = new LandReader();
    private Land told = new Land();
    private Land draft = new Land();
    private final State now = new State();
    private final State kept = new State();
    private final State trial = new State();
    private boolean hasImage;
    private final Needs needs = new Needs();
    private final Judge judge = new Judge();
    private final Sets sets = new Sets();
    private final Giving giving = new Giving();
    private final Game match = new Game();
    private final int[] teachers = new int[MAX_SEEN];
    private int faultPlace = NONE;
    private int refusedTexts;
    private int refusedActs;
    private int refusedSights;

    public SpareWell() {
    }

    // ---- the text ----

    public int feed(int a, int b, int c, int d, int e) {
        Tokens tape = reader.tokens;
        if (tape.size + FEED_BYTES > MAX_TEXT) {
            return NONE;
        }
        tape.putFour(a);
        tape.putFour(b);
        tape.putFour(c);
        tape.putFour(d);
        tape.putFour(e);
        return tape.size;
    }

    public int land(int n) throws IllegalArgumentException {
        if (n < 0 || n > reader.tokens.size) {
            throw new IllegalArgumentException("the tape has not so many bytes");
        }
        int fault = reader.readLand(draft, n);
        reader.tokens.size = 0;
        if (fault != 0) {
            faultPlace = reader.tokens.place;
            refusedTexts++;
            return fault;
        }
        // the old land becomes the next draft, so that a fault never touches what stands
        Land old = told;
        told = draft;
        draft = old;
        now.begin(told);
        hasImage = false;
        faultPlace = NONE;
        return 0;
    }

    public int fault() {
        return faultPlace;
    }

    // ---- what there is ----

    public int count(int what) throws NoSuchElementException {
        switch (what) {
            case 0: return told.people;
            case 1: return told.works;
            case 2: return told.bonds;
            case 3: return told.hero;
            case 4: return now.month;
            case 5: return now.gone;
            case 6: return heroBits();
            case 7: return allDoneNow() ? 1 : 0;
            case 8: return told.piecesIn(now.monthOfYear());
            case 9: return now.acts;
            case 10: return now.seen;
            case 11: return reader.tokens.size;
            case 12: return refusedTexts;
            case 13: return refusedActs;
            case 14: return refusedSights;
            case 15: return told.piecesIn(told.fullestMonth());
            case 16: return told.fullestMonth();
            default: throw new NoSuchElementException("no such count");
        }
    }

    public int one(int person, int what) throws NoSuchElementException {
        mustBePerson(person);
        switch (what) {
            case 0: return now.town[person];
            case 1: return told.strength[person];
            case 2: return now.skills[person];
            case 3: return now.gone >> person & 1;
            case 4: return now.heroMonths(person);
            case 5: return told.boundWith(person);
            default: throw new NoSuchElementException("no such thing of a person");
        }
    }

    public int work(int work, int what) throws NoSuchElementException {
        if (work < 0 || work >= told.works) {
            throw new NoSuchElementException("no such work");
        }
        switch (what) {
            case 0: return told.workTown[work];
            case 1: return told.workSkill[work];
            case 2: return told.workFrom[work];
            case 3: return told.workTo[work];
            case 4: return told.workPieces[work];
            case 5: return told.isWorkOf(work, now.monthOfYear()) ? 1 : 0;
            default: throw new NoSuchElementException("no such thing of a work");
        }
    }

    // ---- acts ----

    public int spared() {
        sitOver(now);
        return sparedBits();
    }

    public int go(int person) throws NoSuchElementException {
        mustBePerson(person);
        sitOver(now);
        if (!canBeSpared(now, person, now.gone)) {
            return refuseAct();
        }
        now.goes(person);
        return Integer.bitCount(now.gone);
    }

    public int back(int person) throws NoSuchElementException {
        mustBePerson(person);
        if (!now.isGone(person)) {
            return refuseAct();
        }
        now.comesBack(person, told.hero);
        return Integer.bitCount(now.gone);
    }

    public boolean learn(int person, int skill, int from) throws NoSuchElementException {
        mustBePerson(person);
        mustBePerson(from);
        mustBeSkill(skill);
        if (!now.canLearn(person, skill, from)) {
            refuseAct();
            return false;
        }
        now.learns(person, skill);
        return true;
    }

    public int move(int person, int town) throws NoSuchElementException {
        mustBePerson(person);
        if (town < 0 || town >= TOWNS || now.isGone(person)) {
            return refuseAct();
        }
        int before = now.town[person];
        now.moves(person, town);
        return before;
    }

    public int months(int many) {
        if (many < 1 || many > MAX_GO_BY) {
            return refuseAct();
        }
        now.goBy(many);
        return now.month;
    }

    public int undo() {
        return now.undoLast() ? now.acts : NONE;
    }

    // ---- together ----

    public boolean can(int set, int month) throws IllegalArgumentException {
        mustBePeople(set);
        mustBeMonth(month);
        bindMonth(now, month);
        return needs.fits(set);
    }

    public int most(int what) throws NoSuchElementException {
        if (what < 0 || what > 2) {
            throw new NoSuchElementException("no such thing of the most");
        }
        bindNow();
        if (what == 0) {
            return sets.mostOf(needs, told.people);
        }
        int set = sets.strongestOf(needs, told);
        return what == 1 || set == NONE ? set : told.strengthOf(set);
    }

    public int strongest(int months, int many, int what)
            throws NoSuchElementException, IllegalArgumentException {
        if (what < 0 || what > 1) {
            throw new NoSuchElementException("no such thing of the strongest");
        }
        mustBeWithin(months, 1, YEAR);
        mustBeWithin(many, 0, MAX_PEOPLE);
        lasting(many, months);
        int set = sets.strongestListed(told);
        return what == 0 || set == NONE ? set : told.strengthOf(set);
    }

    public int never() {
        int ever = 0;
        for (int month = 0; month < YEAR; month++) {
            ever |= aloneIn(month);
        }
        return told.everybody() & ~ever;
    }

    public int last(int many) throws IllegalArgumentException {
        mustBeWithin(many, 0, MAX_PEOPLE);
        int lasted = lasting(many, YEAR);
        // the work of a year comes again: who can be gone for all of it can be gone for two
        return lasted == YEAR ? 2 * YEAR : lasted;
    }

    public int orders(int set) throws IllegalArgumentException {
        mustBePeople(set);
        if ((set & now.gone) != 0) {
            throw new IllegalArgumentException("somebody of the set is gone");
        }
        sitOver(now);
        long[] ordersOf = sets.row;
        ordersOf[0] = 1;
        for (int part = 1; part <= set; part++) {
            if ((part & ~set) == 0) {
                ordersOf[part] = needs.fits(now.gone | part) ? ordersByLast(part, ordersOf) : 0;
            }
        }
        return (int) ordersOf[set];
    }

    public int wells(int person) throws NoSuchElementException {
        if (person != NONE) {
            mustBePerson(person);
        }
        needs.gather(told, now.monthOfYear());
        int home = atHome();
        int left = needs.leftBy(now, home);
        return person == NONE ? left : needs.leftBy(now, home & ~(1 << person)) - left;
    }

    public int piece(int town, int skill) throws NoSuchElementException {
        mustBeTown(town);
        mustBeSkill(skill);
        int before = mostNow();
        needs.addPieces(town, skill, 1);
        needs.bind(told, now, told.everybody());
        return before - sets.mostOf(needs, told.people);
    }

    public int taught(int person, int skill) throws NoSuchElementException {
        mustBePerson(person);
        mustBeSkill(skill);
        int before = mostNow();
        return mostIfTaught(person, skill) - before;
    }

    public int trade() {
        int best = NONE;
        int greatest = mostNow();
        for (int a = 0; a < told.people; a++) {
            for (int b = a + 1; b < told.people; b++) {
                if (now.town[a] != now.town[b]) {
                    int most = mostIfTraded(a, b);
                    if (most > greatest) {
                        greatest = most;
                        best = COUPLE * a + b;
                    }
                }
            }
        }
        return best;
    }

    // ---- what is seen ----

    public int see(int person, int skill) throws NoSuchElementException {
        mustBePerson(person);
        mustBeSkill(skill);
        if (now.seen >= MAX_SEEN) {
            refusedSights++;
            return NONE;
        }
        now.sees(person, skill);
        return now.seen;
    }

    public void forget() {
        now.seen = 0;
    }

    public int secret(int what) throws NoSuchElementException {
        if (what < 0 || what > 1) {
            throw new NoSuchElementException("no such thing of secrets");
        }
        int secrets = listTeachers();
        return what == 0 ? secrets : fewestTeachers(secrets);
    }

    // ---- games and years ----

    public int game(int town, int other, int what)
            throws NoSuchElementException, IllegalArgumentException {
        mustBeTown(town);
        mustBeTown(other);
        if (what < 0 || what > 1) {
            throw new NoSuchElementException("no such thing of a game");
        }
        if (town == other) {
            throw new IllegalArgumentException("both towns are one");
        }
        match.play(told, now.peopleIn(town), now.peopleIn(other));
        return what == 0 ? match.resting : match.first;
    }

    public int year(int seed, int n, int what)
            throws NoSuchElementException, IllegalArgumentException {
        if (what < 0 || what > 2) {
            throw new NoSuchElementException("no such thing of a year");
        }
        mustBeWithin(n, 0, MAX_YEAR_MONTHS);
        trial.copyFrom(now);
        int went = 0;
        int undone = 0;
        int turned = seed;
        for (int i = 0; i < n; i++) {
            turned = turned * 1103515245 + 12345;
            sitOver(trial);
            if (told.people > 0 && sendOrCall((turned >>> 16 & 0x7fff) % told.people)) {
                went++;
            }
            if (!needs.isDoneBy(told.everybody() & ~trial.gone)) {
                undone++;
            }
            trial.month++;
        }
        if (what == 0) {
            return went;
        }
        return what == 1 ? Integer.bitCount(trial.gone) : undone;
    }

    // ---- whom nobody can do without ----

    public int needed() {
        bindNow();
        int home = atHome();
        if (!needs.isDoneBy(home)) {
            return 0;
        }
        int bits = 0;
        for (int person = 0; person < told.people; person++) {
            int bit = 1 << person;
            if ((home & bit) != 0 && !needs.isDoneBy(home & ~bit)) {
                bits |= bit;
            }
        }
        return bits;
    }

    public int free() {
        int bits = told.everybody();
        for (int month = 0; month < YEAR; month++) {
            bits &= aloneIn(month);
        }
        return bits;
    }

    public long ways() {
        giving.listPieces(told, now, atHome());
        return giving.countWays(sets.row, atHome());
    }

    public int doer(int i) throws NoSuchElementException {
        giving.listPieces(told, now, atHome());
        if (i < 0 || i >= giving.pieces) {
            throw new NoSuchElementException("no such piece in this month");
        }
        if (giving.countWays(sets.row, atHome()) == 0) {
            return NONE;
        }
        return giving.firstDoer(sets.row, i);
    }

    public int recalled(int months) throws IllegalArgumentException {
        mustBeWithin(months, 0, YEAR - 1);
        bindMonth(now, (now.monthOfYear() + months) % YEAR);
        int home = atHome();
        int best = NONE;
        int fewest = MAX_PEOPLE + 1;
        for (int set = 0; set <= now.gone; set++) {
            if ((set & ~now.gone) == 0 && Integer.bitCount(set) < fewest && needs.isDoneBy(home | set)) {
                best = set;
                fewest = Integer.bitCount(set);
            }
        }
        return best;
    }

    public int allMonths(int many) throws IllegalArgumentException {
        mustBeWithin(many, 0, 2 * YEAR);
        int sum = 0;
        for (int i = 0; i < many; i++) {
            bindMonth(now, (now.monthOfYear() + i) % YEAR);
            sum += Math.max(0, sets.mostOf(needs, told.people));
        }
        return sum;
    }

    public int school() {
        int best = NONE;
        int greatest = mostNow();
        for (int person = 0; person < told.people; person++) {
            for (int skill = 0; skill < SKILLS; skill++) {
                if (couldLearn(person, skill)) {
                    int most = mostIfTaught(person, skill);
                    if (most > greatest) {
                        greatest = most;
                        best = PAIR * person + skill;
                    }
                }
            }
        }
        return best;
    }

    public int clash(int what) throws NoSuchElementException {
        if (what < 0 || what > 1) {
            throw new NoSuchElementException("no such thing of a clash");
        }
        sitOver(now);
        int spared = sparedBits();
        int couples = 0;
        int first = NONE;
        for (int a = 0; a < told.people; a++) {
            for (int b = a + 1; b < told.people; b++) {
                int both = 1 << a | 1 << b;
                if ((spared & both) == both && doClash(a, b)) {
                    couples++;
                    first = first == NONE ? COUPLE * a + b : first;
                }
            }
        }
        return what == 0 ? couples : first;
    }

    public int lacking(int month) throws IllegalArgumentException {
        mustBeMonth(month);
        needs.gather(told, month);
        return needs.leftBy(now, told.everybody());
    }

    public int worth(int person) throws NoSuchElementException {
        mustBePerson(person);
        int with = mostNow();
        int others = told.everybody() & ~(1 << person);
        needs.bind(told, now, others);
        return with - sets.mostOf(needs, told.people);
    }

    public int lack(int town, int skill, int month)
            throws NoSuchElementException, IllegalArgumentException {
        mustBeTown(town);
        mustBeSkill(skill);
        mustBeMonth(month);
        needs.gather(told, month);
        int doers = Integer.bitCount(now.doersOf(town, skill));
        return Math.max(0, needs.piecesOf(town, skill) - doers);
    }

    // ---- the image ----

    public void image() {
        kept.copyFrom(now);
        hasImage = true;
    }

    public boolean restore() {
        if (!hasImage) {
            return false;
        }
        now.copyFrom(kept);
        return true;
    }

    // ---- what the calls share ----

    private void mustBePerson(int person) {
        if (person < 0 || person >= told.people) {
            throw new NoSuchElementException("no such person");
        }
    }

    private void mustBeTown(int town) {
        if (town < 0 || town >= TOWNS) {
            throw new NoSuchElementException("no such town");
        }
    }

    private void mustBeSkill(int skill) {
        if (skill < 0 || skill >= SKILLS) {
            throw new NoSuchElementException("no such skill");
        }
    }

    private void mustBeMonth(int month) {
        mustBeWithin(month, 0, YEAR - 1);
    }

    private void mustBeWithin(int number, int least, int most) {
        if (number < least || number > most) {
            throw new IllegalArgumentException("a number is not as told");
        }
    }

    private void mustBePeople(int set) {
        if ((set & ~told.everybody()) != 0) {
            throw new IllegalArgumentException("there are no such people");
        }
    }

    private int refuseAct() {
        refusedActs++;
        return NONE;
    }

    private int atHome() {
        return told.everybody() & ~now.gone;
    }

    private int heroBits() {
        int bits = 0;
        for (int person = 0; person < told.people; person++) {
            if (now.heroMonths(person) > 0) {
                bits |= 1 << person;
            }
        }
        return bits;
    }

    private void bindMonth(State state, int month) {
        needs.gather(told, month);
        needs.bind(told, state, told.everybody());
    }

    private void bindNow() {
        bindMonth(now, now.monthOfYear());
    }

    /** Binds the needs to the state's month, and lets the judge sit over it. */
    private void sitOver(State state) {
        bindMonth(state, state.monthOfYear());
        judge.sit(state);
    }

    private boolean allDoneNow() {
        bindNow();
        return needs.isDoneBy(atHome());
    }

    private int mostNow() {
        bindMonth(now, now.monthOfYear());
        return sets.mostOf(needs, told.people);
    }

    /** All of being spared but whether they and he can be gone, were these gone. */
    private boolean mayGo(State state, int person, int gone) {
        return (gone >> person & 1) == 0
                && state.heroMonths(person) == 0
                && judge.holdsFor(told, state, person, gone);
    }

    /** The judge must sit over the state. */
    private boolean canBeSpared(State state, int person, int gone) {
        return needs.fits(gone | 1 << person) && mayGo(state, person, gone);
    }

    private int sparedBits() {
        int bits = 0;
        for (int person = 0; person < told.people; person++) {
            if (canBeSpared(now, person, now.gone)) {
                bits |= 1 << person;
            }
        }
        return bits;
    }

    private boolean doClash(int a, int b) {
        return !canBeSpared(now, b, now.gone | 1 << a) && !canBeSpared(now, a, now.gone | 1 << b);
    }

    /** Who, alone, can be gone in a month of the year. */
    private int aloneIn(int month) {
        bindMonth(now, month);
        int bits = 0;
        for (int person = 0; person < told.people; person++) {
            if (needs.fits(1 << person)) {
                bits |= 1 << person;
            }
        }
        return bits;
    }

    /** How many months, of so many, some set of just so many can be gone; the sets that can for all stay listed. */
    private int lasting(int many, int months) {
        sets.listSets(many, told.everybody());
        for (int i = 0; i < months; i++) {
            bindMonth(now, (now.monthOfYear() + i) % YEAR);
            sets.dropUnfit(needs);
            if (sets.listed == 0) {
                return i;
            }
        }
        return months;
    }

    private long ordersByLast(int part, long[] ordersOf) {
        long sum = 0;
        for (int person = 0; person < told.people; person++) {
            int rest = part & ~(1 << person);
            if (rest != part && ordersOf[rest] != 0 && mayGo(now, person, now.gone | rest)) {
                sum += ordersOf[rest];
            }
        }
        return sum;
    }

    private int mostIfTaught(int person, int skill) {
        int before = now.skills[person];
        now.skills[person] = before | 1 << skill;
        int most = mostNow();
        now.skills[person] = before;
        return most;
    }

    private int mostIfTraded(int a, int b) {
        int townOfA = now.town[a];
        int townOfB = now.town[b];
        now.town[a] = townOfB;
        now.town[b] = townOfA;
        int most = mostNow();
        now.town[a] = townOfA;
        now.town[b] = townOfB;
        return most;
    }

    private boolean couldLearn(int person, int skill) {
        for (int from = 0; from < told.people; from++) {
            if (now.canLearn(person, skill, from)) {
                return true;
            }
        }
        return false;
    }

    /** A row of the teachers of each secret; answers how many secrets there are. */
    private int listTeachers() {
        int secrets = 0;
        for (int i = 0; i < now.seen; i++) {
            int person = now.seenWho[i];
            int skill = now.seenSkill[i];
            if ((now.skills[person] >> skill & 1) == 0) {
                // he hasn't the skill himself, so all doers are others
                teachers[secrets] = now.doersOf(now.town[person], skill);
                secrets++;
            }
        }
        return secrets;
    }

    private int fewestTeachers(int secrets) {
        int best = NONE;
        int fewest = MAX_PEOPLE + 1;
        for (int set = 0; set <= told.everybody(); set++) {
            if (Integer.bitCount(set) < fewest && teachesAll(set, secrets)) {
                best = set;
                fewest = Integer.bitCount(set);
            }
        }
        return best;
    }

    private boolean teachesAll(int set, int secrets) {
        for (int i = 0; i < secrets; i++) {
            if ((teachers[i] & set) == 0) {
                return false;
            }
        }
        return true;
    }

    /** In the trial: the one who is drawn goes (true), comes back, or neither. */
    private boolean sendOrCall(int person) {
        if (canBeSpared(trial, person, trial.gone)) {
            trial.goes(person);
            return true;
        }
        if (trial.isGone(person)) {
            trial.comesBack(person, told.hero);
        }
        return false;
    }

    /** What a text tells, as it stands at first. */
    private static final class Land {
        int people;
        final int[] town = new int[MAX_PEOPLE];
        final int[] strength = new int[MAX_PEOPLE];
        final int[] skills = new int[MAX_PEOPLE];
        int works;
        final int[] workTown = new int[MAX_WORKS];
        final int[] workSkill = new int[MAX_WORKS];
        final int[] workFrom = new int[MAX_WORKS];
        final int[] workTo = new int[MAX_WORKS];
        final int[] workPieces = new int[MAX_WORKS];
        int bonds;
        final int[] bond = new int[MAX_BONDS];
        int hero = HERO_UNTOLD;
        boolean heroTold;
        boolean lawTold;
        final Law law = new Law();

        void clear() {
            people = 0;
            works = 0;
            bonds = 0;
            hero = HERO_UNTOLD;
            heroTold = false;
            lawTold = false;
            law.size = 0;
        }

        int everybody() {
            return (1 << people) - 1;
        }

        boolean isBond(int pair) {
            for (int i = 0; i < bonds; i++) {
                if (bond[i] == pair) {
                    return true;
                }
            }
            return false;
        }

        int boundWith(int person) {
            int bits = 0;
            for (int i = 0; i < bonds; i++) {
                if ((bond[i] >> person & 1) != 0) {
                    bits |= bond[i];
                }
            }
            return bits & ~(1 << person);
        }

        boolean isWorkOf(int work, int month) {
            boolean begun = workFrom[work] <= month;
            boolean unended = month <= workTo[work];
            boolean overTheYear = workTo[work] < workFrom[work];
            return overTheYear ? begun || unended : begun && unended;
        }

        int piecesIn(int month) {
            int sum = 0;
            for (int work = 0; work < works; work++) {
                if (isWorkOf(work, month)) {
                    sum += workPieces[work];
                }
            }
            return sum;
        }

        int fullestMonth() {
            int best = 0;
            for (int month = 1; month < YEAR; month++) {
                if (piecesIn(month) > piecesIn(best)) {
                    best = month;
                }
            }
            return best;
        }

        int strengthOf(int set) {
            int sum = 0;
            for (int person = 0; person < people; person++) {
                if ((set >> person & 1) != 0) {
                    sum += strength[person];
                }
            }
            return sum;
        }
    }

    /** What acts change, and what is seen: all that an image keeps. */
    private static final class State {
        private static final int WENT = 0;
        private static final int CAME_BACK = 1;
        private static final int LEARNT = 2;
        private static final int MOVED = 3;
        private static final int WENT_BY = 4;

        int people;
        int month;
        int gone;
        final int[] town = new int[MAX_PEOPLE];
        final int[] skills = new int[MAX_PEOPLE];
        /** The first month in which one is no hero any more. */
        private final int[] heroUntil = new int[MAX_PEOPLE];
        int acts;
        private final int[] actKind = new int[MAX_ACTS];
        private final int[] actWho = new int[MAX_ACTS];
        private final int[] actOld = new int[MAX_ACTS];
        int seen;
        final int[] seenWho = new int[MAX_SEEN];
        final int[] seenSkill = new int[MAX_SEEN];

        void begin(Land land) {
            people = land.people;
            month = 0;
            gone = 0;
            acts = 0;
            seen = 0;
            for (int person = 0; person < people; person++) {
                town[person] = land.town[person];
                skills[person] = land.skills[person];
                heroUntil[person] = 0;
            }
        }

        void copyFrom(State other) {
            people = other.people;
            month = other.month;
            gone = other.gone;
            acts = other.acts;
            seen = other.seen;
            System.arraycopy(other.town, 0, town, 0, MAX_PEOPLE);
            System.arraycopy(other.skills, 0, skills, 0, MAX_PEOPLE);
            System.arraycopy(other.heroUntil, 0, heroUntil, 0, MAX_PEOPLE);
            System.arraycopy(other.actKind, 0, actKind, 0, MAX_ACTS);
            System.arraycopy(other.actWho, 0, actWho, 0, MAX_ACTS);
            System.arraycopy(other.actOld, 0, actOld, 0, MAX_ACTS);
            System.arraycopy(other.seenWho, 0, seenWho, 0, MAX_SEEN);
            System.arraycopy(other.seenSkill, 0, seenSkill, 0, MAX_SEEN);
        }

        int monthOfYear() {
            return Math.floorMod(month, YEAR);
        }

        boolean isGone(int person) {
            return (gone >> person & 1) != 0;
        }

        int heroMonths(int person) {
            return heroUntil[person] > month ? heroUntil[person] - month : 0;
        }

        int peopleIn(int place) {
            int bits = 0;
            for (int person = 0; person < people; person++) {
                if (town[person] == place) {
                    bits |= 1 << person;
                }
            }
            return bits;
        }

        int doersOf(int place, int skill) {
            int bits = 0;
            for (int person = 0; person < people; person++) {
                if (town[person] == place && (skills[person] >> skill & 1) != 0) {
                    bits |= 1 << person;
                }
            }
            return bits;
        }

        boolean canLearn(int person, int skill, int from) {
            return person != from
                    && !isGone(person)
                    && !isGone(from)
                    && town[person] == town[from]
                    && (skills[from] >> skill & 1) != 0
                    && (skills[person] >> skill & 1) == 0;
        }

        void goes(int person) {
            keepAct(WENT, person, 0);
            gone |= 1 << person;
        }

        void comesBack(int person, int heroMonths) {
            keepAct(CAME_BACK, person, heroUntil[person]);
            gone &= ~(1 << person);
            heroUntil[person] = month + heroMonths;
        }

        void learns(int person, int skill) {
            keepAct(LEARNT, person, skills[person]);
            skills[person] |= 1 << skill;
        }

        void moves(int person, int place) {
            keepAct(MOVED, person, town[person]);
            town[person] = place;
        }

        void goBy(int many) {
            keepAct(WENT_BY, 0, month);
            month += many;
        }

        void sees(int person, int skill) {
            seenWho[seen] = person;
            seenSkill[seen] = skill;
            seen++;
        }

        private void keepAct(int kind, int who, int old) {
            if (acts == MAX_ACTS) {
                acts--;
                System.arraycopy(actKind, 1, actKind, 0, acts);
                System.arraycopy(actWho, 1, actWho, 0, acts);
                System.arraycopy(actOld, 1, actOld, 0, acts);
            }
            actKind[acts] = kind;
            actWho[acts] = who;
            actOld[acts] = old;
            acts++;
        }

        /** False: no act is kept. */
        boolean undoLast() {
            if (acts == 0) {
                return false;
            }
            acts--;
            int who = actWho[acts];
            int old = actOld[acts];
            switch (actKind[acts]) {
                case WENT:
                    gone &= ~(1 << who);
                    break;
                case CAME_BACK:
                    gone |= 1 << who;
                    heroUntil[who] = old;
                    break;
                case LEARNT:
                    skills[who] = old;
                    break;
                case MOVED:
                    town[who] = old;
                    break;
                default:
                    month = old;
                    break;
            }
            return true;
        }
    }

    /**
     * The work of one month as rules for those who are gone. All pieces can be given just if for every
     * set of skills of a town there are as many who have one of them as there are pieces of them (Hall):
     * so of every such group of people only so many may be gone. A bond is such a rule of two too.
     */
    private static final class Needs {
        /** At most 12 kinds of piece matter, 8 of them in one town: 255 + 15 sets, the bonds, the absent. */
        private static final int MAX_RULES = 280;

        private int pieces;
        private int unneeded;
        private final int[] demand = new int[TOWNS * SKILLS];
        private final int[] asked = new int[1 << SKILLS];
        private final int[] able = new int[1 << SKILLS];
        private int rules;
        private int workRules;
        private final int[] group = new int[MAX_RULES];
        private final int[] allowed = new int[MAX_RULES];

        /** The pieces of a month of the year, by towns and skills. */
        void gather(Land land, int month) {
            pieces = 0;
            for (int i = 0; i < demand.length; i++) {
                demand[i] = 0;
            }
            for (int work = 0; work < land.works; work++) {
                if (land.isWorkOf(work, month)) {
                    addPieces(land.workTown[work], land.workSkill[work], land.workPieces[work]);
                }
            }
        }

        void addPieces(int town, int skill, int many) {
            demand[town * SKILLS + skill] += many;
            pieces += many;
        }

        int piecesOf(int town, int skill) {
            return demand[town * SKILLS + skill];
        }

        /** The rules of the gathered pieces, were only these people there. */
        void bind(Land land, State state, int present) {
            rules = 0;
            for (int i = 0; i < land.bonds; i++) {
                addRule(land.bond[i], 1);
            }
            addRule(land.everybody() & ~present, 0);
            workRules = rules;
            // each piece keeps one of them at home
            unneeded = Integer.bitCount(present) - pieces;
            if (unneeded < 0) {
                addRule(0, -1);
                return;
            }
            for (int town = 0; town < TOWNS; town++) {
                addTownRules(weighTown(state, town, present) - 1);
            }
        }

        /** By the sets of skills that are weighed, of which the last one has all skills that are asked for. */
        private void addTownRules(int whole) {
            int allowedOfWhole = Integer.bitCount(able[whole]) - asked[whole];
            if (whole > 0) {
                addRule(able[whole], allowedOfWhole);
            }
            for (int i = 1; i < whole; i++) {
                int many = Integer.bitCount(able[i]) - asked[i];
                // a group of the whole one that may lose as many holds nobody back whom that one doesn't
                if (many < allowedOfWhole) {
                    addRule(able[i], many);
                }
            }
        }

        private void addRule(int people, int many) {
            if (rules < MAX_RULES) {
                group[rules] = people;
                allowed[rules] = many;
                rules++;
            }
        }

        /** For every set of skills that a town asks for: how many pieces, and who can do one; how many sets. */
        private int weighTown(State state, int town, int people) {
            int many = 1;
            asked[0] = 0;
            able[0] = 0;
            for (int skill = 0; skill < SKILLS; skill++) {
                int wanted = piecesOf(town, skill);
                if (wanted > 0) {
                    int doers = state.doersOf(town, skill) & people;
                    for (int i = 0; i < many; i++) {
                        asked[many + i] = asked[i] + wanted;
                        able[many + i] = able[i] | doers;
                    }
                    many *= 2;
                }
            }
            return many;
        }

        /** Whether a set can be gone. */
        boolean fits(int set) {
            return keepsRules(0, set);
        }

        boolean isDoneBy(int people) {
            return keepsRules(workRules, ~people);
        }

        private boolean keepsRules(int from, int set) {
            for (int i = from; i < rules; i++) {
                if (Integer.bitCount(group[i] & set) > allowed[i]) {
                    return false;
                }
            }
            return true;
        }

        /** How many of the gathered pieces are left, if as many as can be are given to these. */
        int leftBy(State state, int people) {
            int sum = 0;
            for (int town = 0; town < TOWNS; town++) {
                int many = weighTown(state, town, people);
                int left = 0;
                for (int i = 1; i < many; i++) {
                    left = Math.max(left, asked[i] - Integer.bitCount(able[i]));
                }
                sum += left;
            }
            return sum;
        }
    }

    /** Looks through sets of people; a part of a set that can be gone can be gone too. */
    private static final class Sets {
        /** Six of twelve: no number of people has more sets. */
        private static final int MAX_LISTED = 924;

        /** A number by set of people, for whichever call needs one. */
        final long[] row = new long[MAX_SETS];
        private final int[] list = new int[MAX_LISTED];
        int listed;

        /** The most of so many people who can be gone; NONE, if not even nobody can. */
        int mostOf(Needs needs, int people) {
            if (!needs.fits(0)) {
                return NONE;
            }
            return grow(needs, people - 1, 0, 0);
        }

        /** The most that this set may become by people up to this one; best, if that is not more. */
        private static int grow(Needs needs, int person, int set, int best) {
            int size = Integer.bitCount(set);
            if (best >= needs.unneeded || size + person + 1 <= best) {
                return best;
            }
            if (person < 0) {
                return size;
            }
            int with = set | 1 << person;
            int greatest = needs.fits(with) ? grow(needs, person - 1, with, best) : best;
            return grow(needs, person - 1, set, greatest);
        }

        /** The set of most strength that can be gone, of like ones the least; NONE, if none can. */
        int strongestOf(Needs needs, Land land) {
            int best = NONE;
            long greatest = NONE;
            addStrengths(land);
            for (int set = 0; set <= land.everybody(); set++) {
                if (row[set] > greatest && needs.fits(set)) {
                    best = set;
                    greatest = row[set];
                }
            }
            return best;
        }

        private void addStrengths(Land land) {
            row[0] = 0;
            for (int person = 0; person < land.people; person++) {
                int bit = 1 << person;
                for (int others = 0; others < bit; others++) {
                    row[bit | others] = row[others] + land.strength[person];
                }
            }
        }

        /** Lists all sets of just so many of these people, the least first. */
        void listSets(int many, int people) {
            listed = 0;
            for (int set = 0; set <= people; set++) {
                if (Integer.bitCount(set) == many && listed < MAX_LISTED) {
                    list[listed] = set;
                    listed++;
                }
            }
        }

        void dropUnfit(Needs needs) {
            int stay = 0;
            for (int i = 0; i < listed; i++) {
                if (needs.fits(list[i])) {
                    list[stay] = list[i];
                    stay++;
                }
            }
            listed = stay;
        }

        /** Of the listed sets; of like ones the least, NONE without. */
        int strongestListed(Land land) {
            int best = NONE;
            int greatest = NONE;
            for (int i = 0; i < listed; i++) {
                int strength = land.strengthOf(list[i]);
                if (strength > greatest) {
                    best = list[i];
                    greatest = strength;
                }
            }
            return best;
        }
    }

    /** The pieces of this month in their order, and how they can be given. */
    private static final class Giving {
        int pieces;
        private final int[] doers = new int[MAX_WORKS * MAX_PIECES_OF_WORK];

        void listPieces(Land land, State state, int home) {
            pieces = 0;
            for (int work = 0; work < land.works; work++) {
                if (land.isWorkOf(work, state.monthOfYear())) {
                    int who = state.doersOf(land.workTown[work], land.workSkill[work]) & home;
                    for (int i = 0; i < land.workPieces[work]; i++) {
                        doers[pieces] = who;
                        pieces++;
                    }
                }
            }
        }

        /** Fills the row: by who has a piece already, in how many ways all pieces behind those can be given. */
        long countWays(long[] row, int home) {
            for (int used = home; used >= 0; used--) {
                if ((used & ~home) == 0) {
                    row[used] = waysBehind(row, used);
                }
            }
            return row[0];
        }

        private long waysBehind(long[] row, int used) {
            int next = Integer.bitCount(used);
            if (next >= pieces) {
                return next == pieces ? 1 : 0;
            }
            int who = doers[next] & ~used;
            long sum = 0;
            for (int person = 0; person < MAX_PEOPLE; person++) {
                if ((who >> person & 1) != 0) {
                    sum += row[used | 1 << person];
                }
            }
            return sum;
        }

        /** By the row that countWays filled, where there is a way. */
        int firstDoer(long[] row, int piece) {
            int used = 0;
            int person = NONE;
            for (int i = 0; i <= piece; i++) {
                person = firstFor(row, i, used);
                if (person == NONE) {
                    return NONE;
                }
                used |= 1 << person;
            }
            return person;
        }

        private int firstFor(long[] row, int piece, int used) {
            int who = doers[piece] & ~used;
            for (int person = 0; person < MAX_PEOPLE; person++) {
                if ((who >> person & 1) != 0 && row[used | 1 << person] != 0) {
                    return person;
                }
            }
            return NONE;
        }
    }

    /** A game of two towns. */
    private static final class Game {
        private static final int PRIZE = 10;
        private static final int PRICE = 2;

        int resting;
        int first;
        private final int[] ours = new int[MAX_SENT + 1];
        private final int[] theirs = new int[MAX_SENT + 1];

        void play(Land land, int people, int others) {
            int ourMost = addStrongest(land, people, ours);
            int theirMost = addStrongest(land, others, theirs);
            resting = 0;
            first = NONE;
            for (int a = 0; a <= ourMost; a++) {
                for (int b = 0; b <= theirMost; b++) {
                    if (isBest(ours, ourMost, a, theirs[b]) && isBest(theirs, theirMost, b, ours[a])) {
                        resting++;
                        first = first == NONE ? PAIR * a + b : first;
                    }
                }
            }
        }

        /** By how many are sent, what they are together; how many can be sent at most. */
        private static int addStrongest(Land land, int people, int[] sums) {
            int left = people;
            sums[0] = 0;
            for (int sent = 1; sent <= MAX_SENT; sent++) {
                int next = strongestIn(land, left);
                if (next == NONE) {
                    return sent - 1;
                }
                sums[sent] = sums[sent - 1] + land.strength[next];
                left &= ~(1 << next);
            }
            return MAX_SENT;
        }

        private static int strongestIn(Land land, int set) {
            int best = NONE;
            for (int person = 0; person < land.people; person++) {
                boolean isIn = (set >> person & 1) != 0;
                if (isIn && (best == NONE || land.strength[person] > land.strength[best])) {
                    best = person;
                }
            }
            return best;
        }

        private static boolean isBest(int[] sums, int most, int sent, int against) {
            for (int other = 0; other <= most; other++) {
                if (gain(sums[other], other, against) > gain(sums[sent], sent, against)) {
                    return false;
                }
            }
            return true;
        }

        private static int gain(int sum, int sent, int against) {
            return (sum > against ? PRIZE : 0) - PRICE * sent;
        }
    }

    /** A rule as cells, what a cell works on ahead of it; without cells it always holds. */
    private static final class Law {
        static final int STRENGTH = 0;
        static final int SKILL_COUNT = 1;
        static final int GONE = 2;
        static final int HOME = 3;
        static final int MONTH = 4;
        static final int HERO = 5;
        static final int TOWN = 6;
        static final int VALUES = 7;
        static final int PLUS = 7;
        static final int MINUS = 8;
        static final int TIMES = 9;
        static final int OVER = 10;
        static final int LESS = 11;
        static final int SAME = 12;
        static final int NOT = 13;
        static final int BOTH = 14;
        static final int EITHER = 15;
        /** From here on a cell is a number. */
        static final int NUMBER = 16;

        int size;
        private final int[] cells = new int[MAX_TEXT];

        void put(int cell) {
            if (size < cells.length) {
                cells[size] = cell;
                size++;
            }
        }

        static int join(int cell, int left, int right) {
            switch (cell) {
                case PLUS: return left + right;
                case MINUS: return left - right;
                case TIMES: return left * right;
                case OVER: return right == 0 ? 0 : left / right;
                case LESS: return left < right ? 1 : 0;
                case SAME: return left == right ? 1 : 0;
                case BOTH: return left != 0 && right != 0 ? 1 : 0;
                default: return left != 0 || right != 0 ? 1 : 0;
            }
        }
    }

    /**
     * Says for whom the law holds, in one state, whoever is gone. Of who is gone the law sees two numbers
     * alone, so an answer is kept by them: the orders of a large set ask for the same few very often.
     */
    private static final class Judge {
        private static final int NUMBERS = MAX_PEOPLE + 1;
        /** Six expressions, each with five workings open at most, and one number more: 31. */
        private static final int MAX_STACK = 32;

        private int sitting;
        private final int[] inTown = new int[TOWNS];
        /** Twice the sitting, and 1 if the law holds. */
        private final int[] kept = new int[MAX_PEOPLE * NUMBERS * NUMBERS];
        private final int[] values = new int[Law.VALUES];
        private final int[] stack = new int[MAX_STACK];
        private int top;

        /** What was kept of another state counts no more. */
        void sit(State state) {
            sitting++;
            for (int town = 0; town < TOWNS; town++) {
                inTown[town] = state.peopleIn(town);
            }
        }

        /** In the state of this sitting, were these gone. */
        boolean holdsFor(Land land, State state, int person, int gone) {
            if (land.law.size == 0) {
                return true;
            }
            int bit = 1 << person;
            int away = Integer.bitCount(gone & ~bit);
            int home = Integer.bitCount(inTown[state.town[person]] & ~gone | bit);
            int place = (person * NUMBERS + away) * NUMBERS + home;
            if (kept[place] >> 1 != sitting) {
                values[Law.GONE] = away;
                values[Law.HOME] = home;
                look(land, state, person);
                kept[place] = 2 * sitting + (workOut(land.law) != 0 ? 1 : 0);
            }
            return (kept[place] & 1) != 0;
        }

        private void look(Land land, State state, int person) {
            values[Law.STRENGTH] = land.strength[person];
            values[Law.SKILL_COUNT] = Integer.bitCount(state.skills[person]);
            values[Law.MONTH] = state.monthOfYear();
            values[Law.HERO] = state.heroMonths(person) > 0 ? 1 : 0;
            values[Law.TOWN] = state.town[person];
        }

        private int workOut(Law law) {
            top = 0;
            for (int i = 0; i < law.size; i++) {
                int cell = law.cells[i];
                if (cell >= Law.NUMBER) {
                    push(cell - Law.NUMBER);
                } else if (cell >= 0 && cell < Law.VALUES) {
                    push(values[cell]);
                } else if (cell == Law.NOT) {
                    push(pop() == 0 ? 1 : 0);
                } else {
                    int right = pop();
                    int left = pop();
                    push(Law.join(cell, left, right));
                }
            }
            return pop();
        }

        private void push(int number) {
            if (top < MAX_STACK) {
                stack[top] = number;
                top++;
            }
        }

        private int pop() {
            if (top == 0) {
                return 0;
            }
            top--;
            return stack[top];
        }
    }

    /** The tape and the tokens of a text on it. Behind a fault no token comes any more, so readers need not ask. */
    private static final class Tokens {
        private static final int END = 0;
        private static final int WORD = 1;
        private static final int NUMBER = 2;
        private static final int SIGN = 3;
        private static final int NOTHING = 4;
        private static final int STUCK = 5;
        private static final int MAX_DIGITS = 4;

        private final int[] bytes = new int[MAX_TEXT];
        int size;
        private int length;
        private int kind;
        private int start;
        private int end;
        private int value;
        int fault;
        int place;

        void putFour(int number) {
            for (int shift = 24; shift >= 0; shift -= 8) {
                if (size < MAX_TEXT) {
                    bytes[size] = number >>> shift & 255;
                    size++;
                }
            }
        }

        /** Stands on the first token of the tape's first bytes. */
        void open(int textLength) {
            length = Math.min(textLength, size);
            kind = NOTHING;
            end = 0;
            fault = 0;
            next();
        }

        void next() {
            if (kind == STUCK) {
                return;
            }
            start = end;
            while (start < length && (bytes[start] == ' ' || bytes[start] == 10)) {
                start++;
            }
            if (start >= length) {
                kind = END;
                end = start;
            } else if (isWithin(bytes[start], 'a', 'z')) {
                kind = WORD;
                end = endOfRow('a', 'z');
            } else if (isWithin(bytes[start], '0', '9')) {
                kind = NUMBER;
                end = endOfRow('0', '9');
                value = numberHere();
            } else {
                kind = isSignByte(bytes[start]) ? SIGN : NOTHING;
                end = start + 1;
            }
        }

        private static boolean isWithin(int sign, char low, char high) {
            return sign >= low && sign <= high;
        }

        private static boolean isSignByte(int sign) {
            return ";()+-*/<=".indexOf((char) sign) >= 0;
        }

        private int endOfRow(char low, char high) {
            int at = start;
            while (at < length && bytes[at] >= low && bytes[at] <= high) {
                at++;
            }
            return at;
        }

        private int numberHere() {
            int number = 0;
            for (int i = start; i < end && i < start + MAX_DIGITS; i++) {
                number = number * 10 + bytes[i] - '0';
            }
            return number;
        }

        void fail(int code) {
            if (kind != STUCK) {
                fault = code;
                place = start;
                kind = STUCK;
            }
        }

        boolean isEnd() {
            return kind == END;
        }

        boolean isAnyWord() {
            return kind == WORD;
        }

        boolean isNumber() {
            return kind == NUMBER;
        }

        boolean isSign(char sign) {
            return kind == SIGN && bytes[start] == sign;
        }

        boolean isWord(String word) {
            if (kind != WORD || end - start != word.length()) {
                return false;
            }
            for (int i = 0; i < word.length(); i++) {
                if (bytes[start + i] != word.charAt(i)) {
                    return false;
                }
            }
            return true;
        }

        /** The number that must stand here, which stays; 0 with a fault. */
        int number(int least, int most) {
            if (kind != NUMBER) {
                fail(LandReader.MISPLACED);
                return 0;
            }
            if (end - start > MAX_DIGITS || value < least || value > most) {
                fail(LandReader.TOO_MUCH);
                return 0;
            }
            return value;
        }

        /** The number that must stand here, which is passed. */
        int takeNumber(int least, int most) {
            int number = number(least, most);
            next();
            return number;
        }

        void takeSign(char sign) {
            if (!isSign(sign)) {
                fail(LandReader.MISPLACED);
            }
            next();
        }
    }

    /** Reads a land's text. */
    private static final class LandReader {
        static final int MISPLACED = 1;
        static final int TOO_MUCH = 2;
        private static final int UNKNOWN = 3;
        private static final int TWICE = 4;
        private static final int TOLD_ALREADY = 5;
        private static final int MAX_NUMBER = 9999;
        private static final int MAX_DEPTH = 6;
        private static final int MAX_NOTS = 6;

        final Tokens tokens = new Tokens();

        /** 0, or the fault. */
        int readLand(Land land, int length) {
            land.clear();
            tokens.open(length);
            for (int i = 0; i < MAX_TEXT && tokens.fault == 0 && !tokens.isEnd(); i++) {
                readLine(land);
                tokens.takeSign(';');
            }
            return tokens.fault;
        }

        private void readLine(Land land) {
            if (tokens.isWord("one")) {
                readPerson(land);
            } else if (tokens.isWord("work")) {
                readWork(land);
            } else if (tokens.isWord("bond")) {
                readBond(land);
            } else if (tokens.isWord("hero")) {
                readHero(land);
            } else if (tokens.isWord("law")) {
                readLaw(land);
            } else {
                tokens.fail(MISPLACED);
            }
        }

        private void readPerson(Land land) {
            if (land.people >= MAX_PEOPLE) {
                tokens.fail(TOO_MUCH);
                return;
            }
            tokens.next();
            land.town[land.people] = tokens.takeNumber(0, TOWNS - 1);
            land.strength[land.people] = tokens.takeNumber(0, MAX_STRENGTH);
            int skills = 1 << tokens.takeNumber(0, SKILLS - 1);
            for (int i = 0; i < MAX_TEXT && tokens.isNumber(); i++) {
                int bit = 1 << tokens.number(0, SKILLS - 1);
                if ((skills & bit) != 0) {
                    tokens.fail(TWICE);
                }
                tokens.next();
                skills |= bit;
            }
            land.skills[land.people] = skills;
            land.people++;
        }

        private void readWork(Land land) {
            if (land.works >= MAX_WORKS) {
                tokens.fail(TOO_MUCH);
                return;
            }
            tokens.next();
            land.workTown[land.works] = tokens.takeNumber(0, TOWNS - 1);
            land.workSkill[land.works] = tokens.takeNumber(0, SKILLS - 1);
            land.workFrom[land.works] = tokens.takeNumber(0, YEAR - 1);
            land.workTo[land.works] = tokens.takeNumber(0, YEAR - 1);
            land.workPieces[land.works] = tokens.takeNumber(1, MAX_PIECES_OF_WORK);
            land.works++;
        }

        private void readBond(Land land) {
            if (land.bonds >= MAX_BONDS) {
                tokens.fail(TOO_MUCH);
                return;
            }
            tokens.next();
            int first = personHere(land);
            tokens.next();
            int second = personHere(land);
            int pair = 1 << first | 1 << second;
            if (first == second || land.isBond(pair)) {
                tokens.fail(TWICE);
            }
            tokens.next();
            land.bond[land.bonds] = pair;
            land.bonds++;
        }

        private int personHere(Land land) {
            int person = tokens.number(0, MAX_NUMBER);
            if (person >= land.people) {
                tokens.fail(UNKNOWN);
                return 0;
            }
            return person;
        }

        private void readHero(Land land) {
            if (land.heroTold) {
                tokens.fail(TOLD_ALREADY);
            }
            tokens.next();
            land.heroTold = true;
            land.hero = tokens.takeNumber(0, MAX_HERO);
        }

        private void readLaw(Land land) {
            if (land.lawTold) {
                tokens.fail(TOLD_ALREADY);
            }
            tokens.next();
            land.lawTold = true;
            readExpr(land.law, 0);
        }

        /** Depth: within how many others it stands. */
        private void readExpr(Law law, int depth) {
            if (depth >= MAX_DEPTH) {
                boolean couldStand = tokens.isNumber() || tokens.isAnyWord() || tokens.isSign('(');
                tokens.fail(couldStand ? TOO_MUCH : MISPLACED);
                return;
            }
            readAnd(law, depth);
            for (int i = 0; i < MAX_TEXT && tokens.isWord("or"); i++) {
                tokens.next();
                readAnd(law, depth);
                law.put(Law.EITHER);
            }
        }

        private void readAnd(Law law, int depth) {
            readNot(law, depth);
            for (int i = 0; i < MAX_TEXT && tokens.isWord("and"); i++) {
                tokens.next();
                readNot(law, depth);
                law.put(Law.BOTH);
            }
        }

        private void readNot(Law law, int depth) {
            int nots = 0;
            for (int i = 0; i <= MAX_NOTS && tokens.isWord("not"); i++) {
                if (i == MAX_NOTS) {
                    tokens.fail(TOO_MUCH);
                }
                tokens.next();
                nots++;
            }
            readTest(law, depth);
            for (int i = 0; i < nots; i++) {
                law.put(Law.NOT);
            }
        }

        private void readTest(Law law, int depth) {
            readSum(law, depth);
            if (tokens.isSign('<') || tokens.isSign('=')) {
                int cell = tokens.isSign('<') ? Law.LESS : Law.SAME;
                tokens.next();
                readSum(law, depth);
                law.put(cell);
            }
        }

        private void readSum(Law law, int depth) {
            readProduct(law, depth);
            for (int i = 0; i < MAX_TEXT && (tokens.isSign('+') || tokens.isSign('-')); i++) {
                int cell = tokens.isSign('+') ? Law.PLUS : Law.MINUS;
                tokens.next();
                readProduct(law, depth);
                law.put(cell);
            }
        }

        private void readProduct(Law law, int depth) {
            readPart(law, depth);
            for (int i = 0; i < MAX_TEXT && (tokens.isSign('*') || tokens.isSign('/')); i++) {
                int cell = tokens.isSign('*') ? Law.TIMES : Law.OVER;
                tokens.next();
                readPart(law, depth);
                law.put(cell);
            }
        }

        private void readPart(Law law, int depth) {
            if (tokens.isSign('(')) {
                tokens.next();
                readExpr(law, depth + 1);
                tokens.takeSign(')');
            } else if (tokens.isAnyWord()) {
                int cell = valueHere();
                if (cell == NONE) {
                    tokens.fail(UNKNOWN);
                }
                tokens.next();
                law.put(cell);
            } else {
                law.put(Law.NUMBER + tokens.takeNumber(0, MAX_NUMBER));
            }
        }

        private int valueHere() {
            if (tokens.isWord("strength")) {
                return Law.STRENGTH;
            }
            if (tokens.isWord("skills")) {
                return Law.SKILL_COUNT;
            }
            if (tokens.isWord("gone")) {
                return Law.GONE;
            }
            if (tokens.isWord("home")) {
                return Law.HOME;
            }
            if (tokens.isWord("month")) {
                return Law.MONTH;
            }
            if (tokens.isWord("hero")) {
                return Law.HERO;
            }
            return tokens.isWord("town") ? Law.TOWN : NONE;
        }
    }
}
