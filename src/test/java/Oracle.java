import java.util.ArrayDeque;
import java.util.ArrayList;
import java.util.Arrays;
import java.util.Deque;
import java.util.HashSet;
import java.util.List;
import java.util.NoSuchElementException;
import java.util.Set;
import java.util.function.ToIntFunction;

/**
 * The document again, by other means and without regard for speed: every set is tried, pieces are
 * given one by one, an act keeps the whole state ahead of it. Tests hold SpareWell against it.
 */
final class Oracle {
    static final int NONE = -1;

    /** A text's fault. */
    private static final class Fault extends RuntimeException {
        private static final long serialVersionUID = 1L;
        final int code;
        final int place;

        Fault(int code, int place) {
            this.code = code;
            this.place = place;
        }
    }

    /** What the law may look at. */
    private record Look(int strength, int skills, int gone, int home, int month, int hero, int town) { }

    private record Work(int town, int skill, int from, int to, int pieces) {
        boolean isIn(int month) {
            for (int m = from; ; m = (m + 1) % 12) {
                if (m == month) {
                    return true;
                }
                if (m == to) {
                    return false;
                }
            }
        }
    }

    private record Token(String text, int place) {
        boolean isWord() {
            return text.matches("[a-z]+");
        }

        boolean isNumber() {
            return text.matches("[0-9]+");
        }
    }

    private record Seen(int person, int skill) { }

    private static final class Told {
        final List<Integer> towns = new ArrayList<>();
        final List<Integer> strengths = new ArrayList<>();
        final List<Integer> skills = new ArrayList<>();
        final List<Work> works = new ArrayList<>();
        final List<Set<Integer>> bonds = new ArrayList<>();
        Integer hero;
        ToIntFunction<Look> law;
    }

    private static final class Now {
        int month;
        Set<Integer> gone = new HashSet<>();
        int[] town;
        int[] skills;
        int[] heroLeft;

        Now copy() {
            Now other = new Now();
            other.month = month;
            other.gone = new HashSet<>(gone);
            other.town = town.clone();
            other.skills = skills.clone();
            other.heroLeft = heroLeft.clone();
            return other;
        }
    }

    private String tape = "";
    private Told told = new Told();
    private Now now = fresh(told);
    private Deque<Now> acts = new ArrayDeque<>();
    private List<Seen> seen = new ArrayList<>();
    private Now imageNow;
    private Deque<Now> imageActs;
    private List<Seen> imageSeen;
    private int place = NONE;
    private final int[] status = new int[3];

    private static Now fresh(Told told) {
        Now now = new Now();
        now.town = told.towns.stream().mapToInt(i -> i).toArray();
        now.skills = told.skills.stream().mapToInt(i -> i).toArray();
        now.heroLeft = new int[now.town.length];
        return now;
    }

    // ---- text ----

    int feed(int a, int b, int c, int d, int e) {
        if (tape.length() + 20 > 700) {
            return NONE;
        }
        StringBuilder more = new StringBuilder();
        for (int number : new int[] {a, b, c, d, e}) {
            String hex = String.format("%08x", number);
            for (int i = 0; i < 8; i += 2) {
                more.append((char) Integer.parseInt(hex.substring(i, i + 2), 16));
            }
        }
        tape += more;
        return tape.length();
    }

    int land(int n) {
        if (n < 0 || n > tape.length()) {
            throw new IllegalArgumentException();
        }
        String text = tape.substring(0, n);
        tape = "";
        try {
            told = new Reading(text).land();
        } catch (Fault fault) {
            status[0]++;
            place = fault.place;
            return fault.code;
        }
        place = NONE;
        now = fresh(told);
        acts.clear();
        seen.clear();
        imageNow = null;
        return 0;
    }

    int fault() {
        return place;
    }

    private static final class Reading {
        private static final List<String> VALUES =
                List.of("strength", "skills", "gone", "home", "month", "hero", "town");
        private final List<Token> tokens = new ArrayList<>();
        private int at;
        private final Told told = new Told();

        Reading(String text) {
            int i = 0;
            while (i < text.length()) {
                char c = text.charAt(i);
                int j = i + 1;
                if (c >= 'a' && c <= 'z') {
                    while (j < text.length() && text.charAt(j) >= 'a' && text.charAt(j) <= 'z') {
                        j++;
                    }
                } else if (c >= '0' && c <= '9') {
                    while (j < text.length() && text.charAt(j) >= '0' && text.charAt(j) <= '9') {
                        j++;
                    }
                }
                if (c != 32 && c != 10) {
                    tokens.add(new Token(text.substring(i, j), i));
                }
                i = j;
            }
            tokens.add(new Token("", text.length()));
        }

        private Token look() {
            return tokens.get(at);
        }

        private Fault wrong(int code) {
            return new Fault(code, look().place());
        }

        private boolean accept(String text) {
            if (look().text().equals(text)) {
                at++;
                return true;
            }
            return false;
        }

        private void must(String text) {
            if (!accept(text)) {
                throw wrong(1);
            }
        }

        private int numberHere(int least, int most) {
            if (!look().isNumber()) {
                throw wrong(1);
            }
            if (look().text().length() > 4) {
                throw wrong(2);
            }
            int number = Integer.parseInt(look().text());
            if (number < least || number > most) {
                throw wrong(2);
            }
            return number;
        }

        private int number(int least, int most) {
            int number = numberHere(least, most);
            at++;
            return number;
        }

        Told land() {
            while (!look().text().isEmpty()) {
                switch (look().text()) {
                    case "one" -> one();
                    case "work" -> work();
                    case "bond" -> bond();
                    case "hero" -> {
                        if (told.hero != null) {
                            throw wrong(5);
                        }
                        at++;
                        told.hero = number(0, 24);
                    }
                    case "law" -> {
                        if (told.law != null) {
                            throw wrong(5);
                        }
                        at++;
                        told.law = expr(0);
                    }
                    default -> throw wrong(1);
                }
                must(";");
            }
            return told;
        }

        private void one() {
            if (told.towns.size() == 12) {
                throw wrong(2);
            }
            at++;
            int town = number(0, 3);
            int strength = number(0, 9);
            int skills = 0;
            do {
                int skill = numberHere(0, 7);
                if ((skills & 1 << skill) != 0) {
                    throw wrong(4);
                }
                skills += 1 << skill;
                at++;
            } while (look().isNumber());
            told.towns.add(town);
            told.strengths.add(strength);
            told.skills.add(skills);
        }

        private void work() {
            if (told.works.size() == 14) {
                throw wrong(2);
            }
            at++;
            told.works.add(new Work(number(0, 3), number(0, 7), number(0, 11), number(0, 11), number(1, 4)));
        }

        private void bond() {
            if (told.bonds.size() == 8) {
                throw wrong(2);
            }
            at++;
            int first = personHere();
            at++;
            int second = personHere();
            if (first == second || told.bonds.contains(Set.of(first, second))) {
                throw wrong(4);
            }
            at++;
            told.bonds.add(Set.of(first, second));
        }

        private int personHere() {
            int person = numberHere(0, 9999);
            if (person >= told.towns.size()) {
                throw wrong(3);
            }
            return person;
        }

        private ToIntFunction<Look> expr(int depth) {
            if (depth == 6 && (look().isNumber() || look().isWord() || look().text().equals("("))) {
                throw wrong(2);
            }
            ToIntFunction<Look> result = and(depth);
            while (accept("or")) {
                ToIntFunction<Look> left = result;
                ToIntFunction<Look> right = and(depth);
                result = x -> left.applyAsInt(x) != 0 || right.applyAsInt(x) != 0 ? 1 : 0;
            }
            return result;
        }

        private ToIntFunction<Look> and(int depth) {
            ToIntFunction<Look> result = not(depth, 1);
            while (accept("and")) {
                ToIntFunction<Look> left = result;
                ToIntFunction<Look> right = not(depth, 1);
                result = x -> left.applyAsInt(x) != 0 && right.applyAsInt(x) != 0 ? 1 : 0;
            }
            return result;
        }

        private ToIntFunction<Look> not(int depth, int which) {
            if (look().text().equals("not")) {
                if (which == 7) {
                    throw wrong(2);
                }
                at++;
                ToIntFunction<Look> inner = not(depth, which + 1);
                return x -> inner.applyAsInt(x) != 0 ? 0 : 1;
            }
            ToIntFunction<Look> left = sum(depth);
            if (accept("<")) {
                ToIntFunction<Look> right = sum(depth);
                return x -> left.applyAsInt(x) < right.applyAsInt(x) ? 1 : 0;
            }
            if (accept("=")) {
                ToIntFunction<Look> right = sum(depth);
                return x -> left.applyAsInt(x) == right.applyAsInt(x) ? 1 : 0;
            }
            return left;
        }

        private ToIntFunction<Look> sum(int depth) {
            ToIntFunction<Look> result = product(depth);
            while (true) {
                ToIntFunction<Look> left = result;
                if (accept("+")) {
                    ToIntFunction<Look> right = product(depth);
                    result = x -> left.applyAsInt(x) + right.applyAsInt(x);
                } else if (accept("-")) {
                    ToIntFunction<Look> right = product(depth);
                    result = x -> left.applyAsInt(x) - right.applyAsInt(x);
                } else {
                    return result;
                }
            }
        }

        private ToIntFunction<Look> product(int depth) {
            ToIntFunction<Look> result = part(depth);
            while (true) {
                ToIntFunction<Look> left = result;
                if (accept("*")) {
                    ToIntFunction<Look> right = part(depth);
                    result = x -> left.applyAsInt(x) * right.applyAsInt(x);
                } else if (accept("/")) {
                    ToIntFunction<Look> right = part(depth);
                    result = x -> {
                        int by = right.applyAsInt(x);
                        return by == 0 ? 0 : (int) ((long) left.applyAsInt(x) / by);
                    };
                } else {
                    return result;
                }
            }
        }

        private ToIntFunction<Look> part(int depth) {
            if (accept("(")) {
                ToIntFunction<Look> inner = expr(depth + 1);
                must(")");
                return inner;
            }
            if (look().isWord()) {
                int value = VALUES.indexOf(look().text());
                if (value < 0) {
                    throw wrong(3);
                }
                at++;
                return switch (value) {
                    case 0 -> Look::strength;
                    case 1 -> Look::skills;
                    case 2 -> Look::gone;
                    case 3 -> Look::home;
                    case 4 -> Look::month;
                    case 5 -> Look::hero;
                    default -> Look::town;
                };
            }
            int number = number(0, 9999);
            return x -> number;
        }
    }

    // ---- the ground ----

    private int people() {
        return told.towns.size();
    }

    private int hero() {
        return told.hero == null ? 12 : told.hero;
    }

    private static void nse(boolean good) {
        if (!good) {
            throw new NoSuchElementException();
        }
    }

    private static void iae(boolean good) {
        if (!good) {
            throw new IllegalArgumentException();
        }
    }

    private void person(int person) {
        nse(person >= 0 && person < people());
    }

    private static void within(int number, int least, int most) {
        iae(number >= least && number <= most);
    }

    private static boolean has(int bits, int i) {
        return (bits & 1 << i) != 0;
    }

    private Set<Integer> everybody() {
        Set<Integer> all = new HashSet<>();
        for (int i = 0; i < people(); i++) {
            all.add(i);
        }
        return all;
    }

    private static Set<Integer> minus(Set<Integer> a, Set<Integer> b) {
        Set<Integer> rest = new HashSet<>(a);
        rest.removeAll(b);
        return rest;
    }

    private static Set<Integer> plus(Set<Integer> a, int one) {
        Set<Integer> more = new HashSet<>(a);
        more.add(one);
        return more;
    }

    private static Set<Integer> setOf(int bits) {
        Set<Integer> set = new HashSet<>();
        for (int i = 0; i < 32; i++) {
            if (has(bits, i)) {
                set.add(i);
            }
        }
        return set;
    }

    private static int bitsOf(Set<Integer> set) {
        int bits = 0;
        for (int i : set) {
            bits |= 1 << i;
        }
        return bits;
    }

    /** {town, skill} of each piece. */
    private List<int[]> pieces(int month) {
        List<int[]> list = new ArrayList<>();
        for (Work work : told.works) {
            if (work.isIn(month % 12)) {
                for (int i = 0; i < work.pieces(); i++) {
                    list.add(new int[] {work.town(), work.skill()});
                }
            }
        }
        return list;
    }

    private static boolean canDo(Now state, int person, int[] piece) {
        return state.town[person] == piece[0] && has(state.skills[person], piece[1]);
    }

    /** As many pieces as can be given, by augmenting. */
    private static int given(Now state, List<int[]> pieces, Set<Integer> by) {
        int[] pieceOf = new int[12];
        Arrays.fill(pieceOf, NONE);
        int given = 0;
        for (int i = 0; i < pieces.size(); i++) {
            if (give(state, pieces, by, i, pieceOf, new HashSet<>())) {
                given++;
            }
        }
        return given;
    }

    private static boolean give(Now state, List<int[]> pieces, Set<Integer> by, int piece, int[] pieceOf,
            Set<Integer> tried) {
        for (int person : by) {
            if (canDo(state, person, pieces.get(piece)) && tried.add(person)) {
                if (pieceOf[person] == NONE || give(state, pieces, by, pieceOf[person], pieceOf, tried)) {
                    pieceOf[person] = piece;
                    return true;
                }
            }
        }
        return false;
    }

    private static boolean done(Now state, List<int[]> pieces, Set<Integer> by) {
        return given(state, pieces, by) == pieces.size();
    }

    private boolean canBeGone(Now state, List<int[]> pieces, Set<Integer> all, Set<Integer> set) {
        for (Set<Integer> bond : told.bonds) {
            if (set.containsAll(bond)) {
                return false;
            }
        }
        return done(state, pieces, minus(all, set));
    }

    private boolean canBeSpared(Now state, int person) {
        if (state.gone.contains(person) || state.heroLeft[person] > 0) {
            return false;
        }
        if (told.law != null) {
            int home = 0;
            for (int other = 0; other < people(); other++) {
                if (!state.gone.contains(other) && state.town[other] == state.town[person]) {
                    home++;
                }
            }
            Look look = new Look(told.strengths.get(person), Integer.bitCount(state.skills[person]),
                    state.gone.size(), home, state.month % 12, 0, state.town[person]);
            if (told.law.applyAsInt(look) == 0) {
                return false;
            }
        }
        return canBeGone(state, pieces(state.month), everybody(), plus(state.gone, person));
    }

    private Set<Integer> home() {
        return minus(everybody(), now.gone);
    }

    private int strengthOf(Set<Integer> set) {
        return set.stream().mapToInt(told.strengths::get).sum();
    }

    /** All sets of these people, the least as bits first. */
    private List<Set<Integer>> subsets(Set<Integer> all) {
        int most = bitsOf(all);
        List<Set<Integer>> list = new ArrayList<>();
        for (int bits = 0; bits <= most; bits++) {
            if ((bits & ~most) == 0) {
                list.add(setOf(bits));
            }
        }
        return list;
    }

    private int mostIn(Now state, List<int[]> pieces, Set<Integer> all) {
        int best = NONE;
        for (Set<Integer> set : subsets(all)) {
            if (set.size() > best && canBeGone(state, pieces, all, set)) {
                best = set.size();
            }
        }
        return best;
    }

    private int mostNow(Now state) {
        return mostIn(state, pieces(state.month), everybody());
    }

    // ---- what there is ----

    int count(int what) {
        nse(what >= 0 && what <= 16);
        int fullest = 0;
        for (int month = 0; month < 12; month++) {
            fullest = Math.max(fullest, pieces(month).size());
        }
        int first = 0;
        while (pieces(first).size() != fullest) {
            first++;
        }
        int heroes = 0;
        for (int i = 0; i < people(); i++) {
            heroes += now.heroLeft[i] > 0 ? 1 << i : 0;
        }
        boolean done = done(now, pieces(now.month), home());
        int[] all = {people(), told.works.size(), told.bonds.size(), hero(), now.month, bitsOf(now.gone),
            heroes, done ? 1 : 0, pieces(now.month).size(), acts.size(), seen.size(), tape.length(),
            status[0], status[1], status[2], fullest, first};
        return all[what];
    }

    int one(int person, int what) {
        person(person);
        nse(what >= 0 && what <= 5);
        int bound = 0;
        for (Set<Integer> bond : told.bonds) {
            if (bond.contains(person)) {
                bound |= bitsOf(bond) - (1 << person);
            }
        }
        int[] all = {now.town[person], told.strengths.get(person), now.skills[person],
            now.gone.contains(person) ? 1 : 0, now.heroLeft[person], bound};
        return all[what];
    }

    int work(int work, int what) {
        nse(work >= 0 && work < told.works.size() && what >= 0 && what <= 5);
        Work it = told.works.get(work);
        int[] all = {it.town(), it.skill(), it.from(), it.to(), it.pieces(), it.isIn(now.month % 12) ? 1 : 0};
        return all[what];
    }

    int spared() {
        int bits = 0;
        for (int i = 0; i < people(); i++) {
            bits += canBeSpared(now, i) ? 1 << i : 0;
        }
        return bits;
    }

    // ---- acts ----

    private int refused() {
        status[1]++;
        return NONE;
    }

    private void act() {
        acts.addLast(now.copy());
        if (acts.size() > 40) {
            acts.removeFirst();
        }
    }

    int go(int person) {
        person(person);
        if (!canBeSpared(now, person)) {
            return refused();
        }
        act();
        now.gone.add(person);
        return now.gone.size();
    }

    int back(int person) {
        person(person);
        if (!now.gone.contains(person)) {
            return refused();
        }
        act();
        now.gone.remove(person);
        now.heroLeft[person] = hero();
        return now.gone.size();
    }

    private boolean canLearn(int person, int skill, int from) {
        return person != from && !now.gone.contains(person) && !now.gone.contains(from)
                && now.town[person] == now.town[from] && has(now.skills[from], skill)
                && !has(now.skills[person], skill);
    }

    boolean learn(int person, int skill, int from) {
        person(person);
        person(from);
        nse(skill >= 0 && skill <= 7);
        if (!canLearn(person, skill, from)) {
            refused();
            return false;
        }
        act();
        now.skills[person] += 1 << skill;
        return true;
    }

    int move(int person, int town) {
        person(person);
        if (town < 0 || town > 3 || now.gone.contains(person)) {
            return refused();
        }
        act();
        int before = now.town[person];
        now.town[person] = town;
        return before;
    }

    private static void aMonth(Now state) {
        state.month++;
        for (int i = 0; i < state.heroLeft.length; i++) {
            state.heroLeft[i] = Math.max(0, state.heroLeft[i] - 1);
        }
    }

    int months(int many) {
        if (many < 1 || many > 24) {
            return refused();
        }
        act();
        for (int i = 0; i < many; i++) {
            aMonth(now);
        }
        return now.month;
    }

    int undo() {
        if (acts.isEmpty()) {
            return NONE;
        }
        now = acts.removeLast();
        return acts.size();
    }

    // ---- together ----

    boolean can(int set, int month) {
        iae((set & -(1 << people())) == 0);
        within(month, 0, 11);
        return canBeGone(now, pieces(month), everybody(), setOf(set));
    }

    int most(int what) {
        nse(what >= 0 && what <= 2);
        Set<Integer> best = null;
        for (Set<Integer> set : subsets(everybody())) {
            if ((best == null || strengthOf(set) > strengthOf(best))
                    && canBeGone(now, pieces(now.month), everybody(), set)) {
                best = set;
            }
        }
        if (best == null) {
            return NONE;
        }
        return what == 0 ? mostNow(now) : what == 1 ? bitsOf(best) : strengthOf(best);
    }

    private int lasts(Set<Integer> set, int most) {
        for (int i = 0; i < most; i++) {
            if (!canBeGone(now, pieces(now.month + i), everybody(), set)) {
                return i;
            }
        }
        return most;
    }

    int strongest(int months, int many, int what) {
        nse(what == 0 || what == 1);
        within(months, 1, 12);
        within(many, 0, 12);
        Set<Integer> best = null;
        for (Set<Integer> set : subsets(everybody())) {
            if (set.size() == many && (best == null || strengthOf(set) > strengthOf(best))
                    && lasts(set, months) == months) {
                best = set;
            }
        }
        return best == null ? NONE : what == 0 ? bitsOf(best) : strengthOf(best);
    }

    private int aloneMonths(int person) {
        int months = 0;
        for (int month = 0; month < 12; month++) {
            months += canBeGone(now, pieces(month), everybody(), Set.of(person)) ? 1 : 0;
        }
        return months;
    }

    int never() {
        int bits = 0;
        for (int i = 0; i < people(); i++) {
            bits += aloneMonths(i) == 0 ? 1 << i : 0;
        }
        return bits;
    }

    int free() {
        int bits = 0;
        for (int i = 0; i < people(); i++) {
            bits += aloneMonths(i) == 12 ? 1 << i : 0;
        }
        return bits;
    }

    int last(int many) {
        within(many, 0, 12);
        int best = 0;
        for (Set<Integer> set : subsets(everybody())) {
            if (set.size() == many) {
                best = Math.max(best, lasts(set, 24));
            }
        }
        return best;
    }

    int orders(int set) {
        iae((set & -(1 << people())) == 0 && (set & bitsOf(now.gone)) == 0);
        return orders(now.copy(), setOf(set));
    }

    private int orders(Now state, Set<Integer> left) {
        if (left.isEmpty()) {
            return 1;
        }
        int sum = 0;
        for (int person : left) {
            if (canBeSpared(state, person)) {
                Now then = state.copy();
                then.gone.add(person);
                sum += orders(then, minus(left, Set.of(person)));
            }
        }
        return sum;
    }

    int wells(int person) {
        List<int[]> pieces = pieces(now.month);
        if (person == NONE) {
            return pieces.size() - given(now, pieces, home());
        }
        person(person);
        if (now.gone.contains(person)) {
            return 0;
        }
        return given(now, pieces, home()) - given(now, pieces, minus(home(), Set.of(person)));
    }

    int piece(int town, int skill) {
        nse(town >= 0 && town <= 3 && skill >= 0 && skill <= 7);
        List<int[]> more = pieces(now.month);
        more.add(new int[] {town, skill});
        return mostNow(now) - mostIn(now, more, everybody());
    }

    private int mostTaught(int person, int skill) {
        Now then = now.copy();
        then.skills[person] |= 1 << skill;
        return mostNow(then);
    }

    int taught(int person, int skill) {
        person(person);
        nse(skill >= 0 && skill <= 7);
        return mostTaught(person, skill) - mostNow(now);
    }

    int trade() {
        int most = mostNow(now);
        int best = NONE;
        for (int a = 0; a < people(); a++) {
            for (int b = a + 1; b < people(); b++) {
                Now then = now.copy();
                then.town[a] = now.town[b];
                then.town[b] = now.town[a];
                if (now.town[a] != now.town[b] && mostNow(then) > most) {
                    most = mostNow(then);
                    best = 100 * a + b;
                }
            }
        }
        return best;
    }

    // ---- seen ----

    int see(int person, int skill) {
        person(person);
        nse(skill >= 0 && skill <= 7);
        if (seen.size() == 8) {
            status[2]++;
            return NONE;
        }
        seen.add(new Seen(person, skill));
        return seen.size();
    }

    void forget() {
        seen.clear();
    }

    int secret(int what) {
        nse(what == 0 || what == 1);
        List<Set<Integer>> teachers = new ArrayList<>();
        for (Seen it : seen) {
            if (!has(now.skills[it.person()], it.skill())) {
                Set<Integer> set = new HashSet<>();
                for (int i = 0; i < people(); i++) {
                    if (i != it.person() && now.town[i] == now.town[it.person()]
                            && has(now.skills[i], it.skill())) {
                        set.add(i);
                    }
                }
                teachers.add(set);
            }
        }
        if (what == 0) {
            return teachers.size();
        }
        Set<Integer> best = null;
        for (Set<Integer> set : subsets(everybody())) {
            boolean all = true;
            for (Set<Integer> some : teachers) {
                all &= some.stream().anyMatch(set::contains);
            }
            if (all && (best == null || set.size() < best.size())) {
                best = set;
            }
        }
        return best == null ? NONE : bitsOf(best);
    }

    // ---- games, years ----

    private List<Integer> sums(int town) {
        List<Integer> strengths = new ArrayList<>();
        for (int i = 0; i < people(); i++) {
            if (now.town[i] == town) {
                strengths.add(told.strengths.get(i));
            }
        }
        strengths.sort((a, b) -> b - a);
        List<Integer> sums = new ArrayList<>(List.of(0));
        for (int i = 0; i < Math.min(4, strengths.size()); i++) {
            sums.add(sums.get(i) + strengths.get(i));
        }
        return sums;
    }

    int game(int town, int other, int what) {
        nse(town >= 0 && town <= 3 && other >= 0 && other <= 3 && (what == 0 || what == 1));
        iae(town != other);
        List<Integer> a = sums(town);
        List<Integer> b = sums(other);
        int first = NONE;
        int many = 0;
        for (int i = 0; i < a.size(); i++) {
            for (int j = 0; j < b.size(); j++) {
                boolean rests = true;
                for (int k = 0; k < a.size(); k++) {
                    rests &= gain(a, k, b.get(j)) <= gain(a, i, b.get(j));
                }
                for (int k = 0; k < b.size(); k++) {
                    rests &= gain(b, k, a.get(i)) <= gain(b, j, a.get(i));
                }
                if (rests) {
                    many++;
                    first = first == NONE ? 10 * i + j : first;
                }
            }
        }
        return what == 0 ? many : first;
    }

    private static int gain(List<Integer> sums, int sent, int against) {
        return sums.get(sent) > against ? 10 - 2 * sent : -2 * sent;
    }

    int year(int seed, int n, int what) {
        nse(what >= 0 && what <= 2);
        within(n, 0, 60);
        Now state = now.copy();
        int[] answers = new int[3];
        int turned = seed;
        for (int i = 0; i < n; i++) {
            if (people() > 0) {
                turned = (int) ((long) turned * 1103515245L + 12345L);
                int drawn = (turned >> 16 & 0x7fff) % people();
                if (canBeSpared(state, drawn)) {
                    state.gone.add(drawn);
                    answers[0]++;
                } else if (state.gone.remove(drawn)) {
                    state.heroLeft[drawn] = hero();
                }
            }
            answers[2] += done(state, pieces(state.month), minus(everybody(), state.gone)) ? 0 : 1;
            aMonth(state);
        }
        answers[1] = state.gone.size();
        return answers[what];
    }

    // ---- needed ----

    int needed() {
        List<int[]> pieces = pieces(now.month);
        int bits = 0;
        if (done(now, pieces, home())) {
            for (int i : home()) {
                bits += done(now, pieces, minus(home(), Set.of(i))) ? 0 : 1 << i;
            }
        }
        return bits;
    }

    long ways() {
        return waysFrom(pieces(now.month), 0, home());
    }

    private long waysFrom(List<int[]> pieces, int i, Set<Integer> left) {
        if (i == pieces.size()) {
            return 1;
        }
        long sum = 0;
        for (int person : left) {
            if (canDo(now, person, pieces.get(i))) {
                sum += waysFrom(pieces, i + 1, minus(left, Set.of(person)));
            }
        }
        return sum;
    }

    int doer(int i) {
        List<int[]> pieces = pieces(now.month);
        nse(i >= 0 && i < pieces.size());
        List<Integer> row = firstRow(pieces, new ArrayList<>());
        return row == null ? NONE : row.get(i);
    }

    private List<Integer> firstRow(List<int[]> pieces, List<Integer> row) {
        if (row.size() == pieces.size()) {
            return row;
        }
        Set<Integer> left = minus(home(), new HashSet<>(row));
        if (!done(now, pieces.subList(row.size(), pieces.size()), left)) {
            return null;
        }
        for (int person = 0; person < people(); person++) {
            if (left.contains(person) && canDo(now, person, pieces.get(row.size()))) {
                List<Integer> longer = new ArrayList<>(row);
                longer.add(person);
                List<Integer> whole = firstRow(pieces, longer);
                if (whole != null) {
                    return whole;
                }
            }
        }
        return null;
    }

    int recalled(int months) {
        within(months, 0, 11);
        Set<Integer> best = null;
        for (Set<Integer> set : subsets(now.gone)) {
            Set<Integer> there = home();
            there.addAll(set);
            if ((best == null || set.size() < best.size()) && done(now, pieces(now.month + months), there)) {
                best = set;
            }
        }
        return best == null ? NONE : bitsOf(best);
    }

    int allMonths(int many) {
        within(many, 0, 24);
        int sum = 0;
        for (int i = 0; i < many; i++) {
            sum += Math.max(0, mostIn(now, pieces(now.month + i), everybody()));
        }
        return sum;
    }

    int school() {
        int most = mostNow(now);
        int best = NONE;
        for (int person = 0; person < people(); person++) {
            for (int skill = 0; skill < 8; skill++) {
                boolean could = false;
                for (int from = 0; from < people(); from++) {
                    could |= canLearn(person, skill, from);
                }
                if (could && mostTaught(person, skill) > most) {
                    most = mostTaught(person, skill);
                    best = 10 * person + skill;
                }
            }
        }
        return best;
    }

    int clash(int what) {
        nse(what == 0 || what == 1);
        int many = 0;
        int first = NONE;
        for (int a = 0; a < people(); a++) {
            for (int b = a + 1; b < people(); b++) {
                Now withoutA = now.copy();
                withoutA.gone.add(a);
                Now withoutB = now.copy();
                withoutB.gone.add(b);
                if (canBeSpared(now, a) && canBeSpared(now, b)
                        && !canBeSpared(withoutA, b) && !canBeSpared(withoutB, a)) {
                    many++;
                    first = first == NONE ? 100 * a + b : first;
                }
            }
        }
        return what == 0 ? many : first;
    }

    int lacking(int month) {
        within(month, 0, 11);
        return pieces(month).size() - given(now, pieces(month), everybody());
    }

    int worth(int person) {
        person(person);
        return mostNow(now) - mostIn(now, pieces(now.month), minus(everybody(), Set.of(person)));
    }

    int lack(int town, int skill, int month) {
        nse(town >= 0 && town <= 3 && skill >= 0 && skill <= 7);
        within(month, 0, 11);
        int more = 0;
        for (int[] piece : pieces(month)) {
            more += piece[0] == town && piece[1] == skill ? 1 : 0;
        }
        for (int i = 0; i < people(); i++) {
            more -= canDo(now, i, new int[] {town, skill}) ? 1 : 0;
        }
        return Math.max(0, more);
    }

    void image() {
        imageNow = now.copy();
        imageActs = copyOf(acts);
        imageSeen = new ArrayList<>(seen);
    }

    boolean restore() {
        if (imageNow == null) {
            return false;
        }
        now = imageNow.copy();
        acts = copyOf(imageActs);
        seen = new ArrayList<>(imageSeen);
        return true;
    }

    private static Deque<Now> copyOf(Deque<Now> list) {
        Deque<Now> copy = new ArrayDeque<>();
        for (Now one : list) {
            copy.addLast(one.copy());
        }
        return copy;
    }
}
