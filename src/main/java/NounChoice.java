import java.util.Arrays;

/**
 * Which things are meant by a phrase. Words in capitals are those of the document.
 *
 * <p>A set of THINGS is held as an int: bit t tells of THING t, as there are 32 at most.
 */
public final class NounChoice {
    public static final int BAD = -1, NONE = -2, FULL = -3, TURN = -4;

    private static final int MOST_THINGS = 32;
    private static final int MOST_TOKENS = 30;
    private static final int MOST_WORDS = 6;
    private static final int WORDS = 30;
    private static final int KINDS = 16;
    private static final int RULES = 4;
    private static final int GREATEST_MARK = 9;
    private static final int GREATEST_WEIGHT = 9;
    private static final int SCORE_SHIFT = 1000;

    private static final int NO_KIND = -1;
    private static final int NO_WORD = -1;

    private static final int HERE = 1;
    private static final int HELD = 2;
    private static final int HIDDEN = 3;

    private static final int THE = 30;
    private static final int A = 31;
    private static final int MY = 32;
    private static final int OTHER = 33;
    private static final int ALL = 34;
    private static final int EXCEPT = 35;
    private static final int AND = 36;
    private static final int OF = 37;
    private static final int NUMBER_SHIFT = 40;
    private static final int GREATEST_NUMBER = 20;

    private static final int AS_ONE = 1;
    private static final int AS_MANY = 2;

    private static final int NONE_FIT = 2;
    private static final int NONE_THERE = 3;
    private static final int EXCEPT_IDLE = 4;
    private static final int NONE_BUT_EXCEPTS = 5;
    private static final int TOO_FEW = 6;
    private static final int TOO_MANY = 7;
    private static final int NONE_LEFT = 8;
    /** Beside the REASONS: how a PART may end without one. */
    private static final int GIVEN = 0;
    private static final int ASKS = 1;

    private static final int REASON_SHIFT = -10;
    private static final int NO_SUCH_ROW = -11;
    /** told(): no PART, no FAULT, no count. */
    private static final int NOTHING = -1;
    private static final int EVERY_THING = -1;

    private final Things things = new Things();
    private final int[] row = new int[MOST_TOKENS];
    private int rowSize = 0;
    private int mostChosen = MOST_THINGS;

    private Phrase phrase = new Phrase();
    /** A ROW is read into this one first, as THE PHRASE stays if the ROW is none. */
    private Phrase draft = new Phrase();
    /** For each PART of THE PHRASE, the set that a REPLY left. */
    private final int[] leftBy = new int[MOST_TOKENS];

    private Picks latest = new Picks();
    /** What the PARTS give; apart from the latest, which stay if a later PART gives none. */
    private Picks given = new Picks();
    /** C of the PART that is gone through. */
    private int candidates = 0;

    /** T as it was ASKED; empty if it is not ASKED. */
    private int askedSet = 0;
    private int askedPart = 0;

    private int toldPart = NOTHING;
    private int toldFault = NOTHING;
    private int toldSize = NOTHING;

    public NounChoice() {
        Arrays.fill(leftBy, EVERY_THING);
    }

    // ---- things

    public int thing() {
        return things.add();
    }

    public int word(int thing, int w, boolean noun, boolean on) {
        return things.setWord(thing, w, noun, on);
    }

    public int kind(int thing, int k) {
        return things.setKind(thing, k);
    }

    public int place(int thing, int p) {
        return things.setPlace(thing, p);
    }

    public int mark(int thing, int rule, int v) {
        return things.setMark(thing, rule, v);
    }

    public int plural(int kind, int w) {
        return things.setPlural(kind, w);
    }

    public int weight(int rule, int w) {
        return things.setWeight(rule, w);
    }

    public int limit(int n) {
        if (n < 0 || n > MOST_THINGS) {
            return BAD;
        }
        int was = mostChosen;
        mostChosen = n;
        return was;
    }

    public int score(int thing) {
        return things.has(thing) ? things.scoreOf(thing) + SCORE_SHIFT : BAD;
    }

    public int alike(int a, int b) {
        if (!things.has(a) || !things.has(b)) {
            return BAD;
        }
        return things.areAlike(a, b) ? 1 : 0;
    }

    // ---- phrases

    public int type(int token) {
        if (!isToken(token)) {
            return BAD;
        }
        if (rowSize >= MOST_TOKENS) {
            return FULL;
        }
        row[rowSize] = token;
        rowSize++;
        return rowSize;
    }

    public int wipe() {
        int was = rowSize;
        rowSize = 0;
        return was;
    }

    public int fits(int thing) {
        if (!things.has(thing)) {
            return BAD;
        }
        if (draft.read(row, rowSize) != NOTHING || !draft.isDescription()) {
            return NONE;
        }
        int one = holds(fittingSet(draft, 0, AS_ONE), thing) ? AS_ONE : 0;
        int many = holds(fittingSet(draft, 0, AS_MANY), thing) ? AS_MANY : 0;
        return one | many;
    }

    public int choose() {
        int fault = draft.read(row, rowSize);
        if (fault != NOTHING) {
            return refuseRow(fault);
        }
        rowSize = 0;
        Phrase former = phrase;
        phrase = draft;
        draft = former;
        Arrays.fill(leftBy, EVERY_THING);
        return goThrough();
    }

    public int reply() {
        if (askedSet == 0) {
            return TURN;
        }
        int fault = replyFault();
        if (fault != NOTHING) {
            return refuseRow(fault);
        }
        int left = leftByRow();
        rowSize = 0;
        if (left == 0) {
            tell(askedPart, NOTHING, NOTHING);
            return REASON_SHIFT - NONE_LEFT;
        }
        if (askedPart >= 0 && askedPart < leftBy.length) {
            leftBy[askedPart] = left;
        }
        return goThrough();
    }

    public int chosen(int i) {
        return i == -1 ? latest.size : latest.at(i);
    }

    public int asked(int g, int i) {
        if (g == -1) {
            return Integer.bitCount(leadersOf(askedSet));
        }
        int group = groupAt(g);
        if (group == 0) {
            return BAD;
        }
        return i == -1 ? Integer.bitCount(group) : memberAt(group, i);
    }

    public int told(int what) {
        switch (what) {
            case 0: return toldPart;
            case 1: return toldFault;
            case 2: return toldSize;
            default: return BAD;
        }
    }

    public int count(int what) {
        switch (what) {
            case 0: return things.number;
            case 1: return Integer.bitCount(things.thereSet());
            case 2: return Integer.bitCount(things.placedSet(HELD));
            case 3: return rowSize;
            case 4: return phrase.parts;
            case 5: return mostChosen;
            default: return BAD;
        }
    }

    // ---- tokens

    private static boolean isWord(int token) {
        return token >= 0 && token < WORDS;
    }

    private static boolean isArticle(int token) {
        return token >= THE && token <= OTHER;
    }

    private static boolean isNumber(int token) {
        return token > NUMBER_SHIFT && token <= NUMBER_SHIFT + GREATEST_NUMBER;
    }

    private static boolean isToken(int token) {
        return (token >= 0 && token <= OF) || isNumber(token);
    }

    // ---- sets

    private static boolean holds(int set, int thing) {
        return ((set >>> thing) & 1) != 0;
    }

    private static int leastOf(int set) {
        return set & -set;
    }

    /** The i-th of a set by their numbers, or BAD. */
    private static int memberAt(int set, int i) {
        int before = 0;
        for (int t = 0; t < MOST_THINGS; t++) {
            if (holds(set, t)) {
                if (before == i) {
                    return t;
                }
                before++;
            }
        }
        return BAD;
    }

    // ---- like ones

    /** GROUP g of what is ASKED, empty if there is none such. */
    private int groupAt(int g) {
        int leader = memberAt(leadersOf(askedSet), g);
        if (leader == BAD) {
            return 0;
        }
        // One of KIND - 1 is ALIKE with none, but is a GROUP all the same.
        int group = 1 << leader;
        for (int t = 0; t < things.number; t++) {
            if (holds(askedSet, t) && things.areAlike(leader, t)) {
                group |= 1 << t;
            }
        }
        return group;
    }

    /** The least one of each GROUP of a set: ALIKE with none that is less. */
    private int leadersOf(int set) {
        int leaders = 0;
        for (int t = 0; t < things.number; t++) {
            boolean leads = holds(set, t);
            for (int less = 0; leads && less < t; less++) {
                leads = !holds(leaders, less) || !things.areAlike(less, t);
            }
            if (leads) {
                leaders |= 1 << t;
            }
        }
        return leaders;
    }

    // ---- going through THE PHRASE

    private void tell(int part, int fault, int size) {
        toldPart = part;
        toldFault = fault;
        toldSize = size;
    }

    private int refuseRow(int fault) {
        rowSize = 0;
        tell(NOTHING, fault, NOTHING);
        return NO_SUCH_ROW;
    }

    private int goThrough() {
        askedSet = 0;
        given.clear();
        for (int part = 0; part < phrase.parts; part++) {
            int end = goThroughPart(part);
            if (end != GIVEN) {
                return endAt(part, end);
            }
        }
        tell(NOTHING, NOTHING, NOTHING);
        if (given.size > mostChosen) {
            return REASON_SHIFT - TOO_MANY;
        }
        Picks former = latest;
        latest = given;
        given = former;
        return latest.size;
    }

    private int endAt(int part, int end) {
        // REASON 3 may come from a REPLY, while C has some: 0 is told even so.
        boolean none = end == NONE_FIT || end == NONE_THERE || end == NONE_BUT_EXCEPTS;
        tell(part, NOTHING, none ? 0 : Integer.bitCount(candidates));
        return end == ASKS ? 0 : REASON_SHIFT - end;
    }

    private int goThroughPart(int part) {
        int main = phrase.mainOf(part);
        int fitting = main == NOTHING ? things.allSet() : fittingSet(phrase, main, AS_ONE | AS_MANY);
        if (fitting == 0) {
            return NONE_FIT;
        }
        candidates = fitting & things.thereSet();
        if (candidates == 0) {
            return NONE_THERE;
        }
        if (!takeExceptsAway(part)) {
            return EXCEPT_IDLE;
        }
        if (candidates == 0) {
            return NONE_BUT_EXCEPTS;
        }
        int amount = phrase.amountOf(part);
        if (amount > 0) {
            return giveNumber(amount);
        }
        if (amount == Phrase.EVERY) {
            given.add(candidates);
            return GIVEN;
        }
        return giveMeant(part, main);
    }

    /** False as soon as an EXCEPT takes none away. */
    private boolean takeExceptsAway(int part) {
        int end = phrase.exceptsEnd(part);
        for (int d = phrase.exceptsStart(part); d < end; d++) {
            int away = candidates & fittingSet(phrase, d, AS_ONE | AS_MANY);
            if (away == 0) {
                return false;
            }
            candidates &= ~away;
        }
        return true;
    }

    private int giveNumber(int n) {
        if (Integer.bitCount(candidates) < n) {
            return TOO_FEW;
        }
        int rest = candidates;
        for (int k = 0; k < n; k++) {
            rest &= ~leastOf(bestOf(rest));
        }
        given.add(candidates & ~rest);
        return GIVEN;
    }

    /** A DESCRIPTION alone: MANY if it may be so, else the likeliest one. */
    private int giveMeant(int part, int main) {
        int many = candidates & fittingSet(phrase, main, AS_MANY);
        if (many != 0) {
            given.add(many);
            return GIVEN;
        }
        int left = part >= 0 && part < leftBy.length ? candidates & leftBy[part] : candidates;
        if (left == 0) {
            return NONE_THERE;
        }
        int best = bestOf(left);
        if (phrase.tells(main, A) || Integer.bitCount(leadersOf(best)) == 1) {
            given.add(leastOf(best));
            return GIVEN;
        }
        askedSet = best;
        askedPart = part;
        return ASKS;
    }

    /** Those of a set with the greatest SCORE. */
    private int bestOf(int set) {
        int best = 0;
        int greatest = Integer.MIN_VALUE;
        for (int t = 0; t < things.number; t++) {
            if (holds(set, t)) {
                int own = things.scoreOf(t);
                if (own > greatest) {
                    greatest = own;
                    best = 0;
                }
                if (own == greatest) {
                    best |= 1 << t;
                }
            }
        }
        return best;
    }

    /** Those that FIT a DESCRIPTION in one of the ways. */
    private int fittingSet(Phrase of, int description, int ways) {
        int leading = of.leadingOf(description);
        int last = of.lastOf(description);
        int set = 0;
        for (int t = 0; t < things.number; t++) {
            if ((things.fitByWords(t, leading, last) & ways) != 0) {
                set |= 1 << t;
            }
        }
        if (of.tells(description, MY)) {
            set &= things.placedSet(HELD);
        }
        if (of.tells(description, OTHER)) {
            set &= ~latest.set;
        }
        return set;
    }

    // ---- replies

    /** FAULT of the ROW as a REPLY. */
    private int replyFault() {
        if (rowSize == 0) {
            return 0;
        }
        if (isNumber(row[0])) {
            return rowSize == 1 ? NOTHING : 1;
        }
        for (int i = 0; i < rowSize && i < row.length; i++) {
            if (i >= MOST_WORDS || !isWord(row[i])) {
                return i;
            }
        }
        return NOTHING;
    }

    /** Those of T that the ROW, which is a REPLY, leaves. */
    private int leftByRow() {
        if (isNumber(row[0])) {
            return groupAt(row[0] - NUMBER_SHIFT - 1);
        }
        int words = 0;
        for (int i = 0; i < rowSize && i < row.length; i++) {
            words |= 1 << row[i];
        }
        int left = 0;
        for (int t = 0; t < things.number; t++) {
            if (holds(askedSet, t) && things.hasWords(t, words)) {
                left |= 1 << t;
            }
        }
        return left;
    }

    /** The THINGS, with the PLURALS of KINDS and the WEIGHTS of RULES. A set of WORDS is an int, as one of THINGS. */
    private static final class Things {
        private final int[] nouns = new int[MOST_THINGS];
        private final int[] adjectives = new int[MOST_THINGS];
        private final int[] kinds = new int[MOST_THINGS];
        private final int[] places = new int[MOST_THINGS];
        private final int[] marks = new int[MOST_THINGS * RULES];
        private final int[] plurals = new int[KINDS];
        private final int[] weights = new int[RULES];
        private int number = 0;

        Things() {
            Arrays.fill(kinds, NO_KIND);
            Arrays.fill(places, HERE);
            Arrays.fill(plurals, NO_WORD);
            Arrays.fill(weights, 1);
        }

        boolean has(int thing) {
            return thing >= 0 && thing < number && thing < MOST_THINGS;
        }

        private static boolean isRule(int rule) {
            return rule >= 0 && rule < RULES;
        }

        private static boolean isKind(int kind) {
            return kind >= 0 && kind < KINDS;
        }

        int add() {
            if (number >= MOST_THINGS) {
                return FULL;
            }
            number++;
            return number - 1;
        }

        int setWord(int thing, int w, boolean noun, boolean on) {
            if (!has(thing) || !isWord(w)) {
                return BAD;
            }
            int[] sets = noun ? nouns : adjectives;
            int was = (sets[thing] >>> w) & 1;
            sets[thing] = on ? sets[thing] | (1 << w) : sets[thing] & ~(1 << w);
            return was;
        }

        int setKind(int thing, int k) {
            if (!has(thing) || (k != NO_KIND && !isKind(k))) {
                return BAD;
            }
            int was = kinds[thing];
            kinds[thing] = k;
            return was + 1;
        }

        int setPlace(int thing, int p) {
            if (!has(thing) || p < 0 || p > HIDDEN) {
                return BAD;
            }
            int was = places[thing];
            places[thing] = p;
            return was;
        }

        int setMark(int thing, int rule, int v) {
            if (!has(thing) || !isRule(rule) || v < -GREATEST_MARK || v > GREATEST_MARK) {
                return BAD;
            }
            int at = thing * RULES + rule;
            int was = marks[at];
            marks[at] = v;
            return was + GREATEST_MARK;
        }

        int setPlural(int kind, int w) {
            if (!isKind(kind) || (w != NO_WORD && !isWord(w))) {
                return BAD;
            }
            int was = plurals[kind];
            plurals[kind] = w;
            return was + 1;
        }

        int setWeight(int rule, int w) {
            if (!isRule(rule) || w < 0 || w > GREATEST_WEIGHT) {
                return BAD;
            }
            int was = weights[rule];
            weights[rule] = w;
            return was;
        }

        int scoreOf(int thing) {
            if (!has(thing)) {
                return 0;
            }
            int sum = 0;
            for (int rule = 0; rule < RULES; rule++) {
                sum += weights[rule] * marks[thing * RULES + rule];
            }
            return sum;
        }

        boolean areAlike(int a, int b) {
            if (!has(a) || !has(b) || kinds[a] == NO_KIND) {
                return false;
            }
            for (int rule = 0; rule < RULES; rule++) {
                if (marks[a * RULES + rule] != marks[b * RULES + rule]) {
                    return false;
                }
            }
            return kinds[a] == kinds[b] && nouns[a] == nouns[b]
                && adjectives[a] == adjectives[b] && places[a] == places[b];
        }

        int allSet() {
            int set = 0;
            for (int t = 0; t < number; t++) {
                set |= 1 << t;
            }
            return set;
        }

        int thereSet() {
            return placedSet(HERE) | placedSet(HELD);
        }

        int placedSet(int place) {
            int set = 0;
            for (int t = 0; t < number && t < MOST_THINGS; t++) {
                if (places[t] == place) {
                    set |= 1 << t;
                }
            }
            return set;
        }

        /** Whether each of a set of WORDS is a NOUN or ADJECTIVE of a THING. */
        boolean hasWords(int thing, int words) {
            return has(thing) && (words & ~(nouns[thing] | adjectives[thing])) == 0;
        }

        /** How a THING FITS by the last WORD and the set of those ahead of it. */
        int fitByWords(int thing, int leading, int last) {
            if (!has(thing) || !isWord(last) || (leading & ~(nouns[thing] | adjectives[thing])) != 0) {
                return 0;
            }
            int kind = kinds[thing];
            int one = ((nouns[thing] >>> last) & 1) != 0 ? AS_ONE : 0;
            int many = isKind(kind) && plurals[kind] == last ? AS_MANY : 0;
            return one | many;
        }
    }

    /** THINGS in order, each only once. */
    private static final class Picks {
        private final int[] order = new int[MOST_THINGS];
        private int size = 0;
        private int set = 0;

        void clear() {
            size = 0;
            set = 0;
        }

        void add(int more) {
            for (int t = 0; t < MOST_THINGS; t++) {
                if (holds(more, t) && !holds(set, t) && size < MOST_THINGS) {
                    order[size] = t;
                    size++;
                    set |= 1 << t;
                }
            }
        }

        int at(int i) {
            return i >= 0 && i < size && i < order.length ? order[i] : BAD;
        }
    }

    /** A PHRASE as it is read, TOKEN by TOKEN: its PARTS, and the DESCRIPTIONS of all of them in one row. */
    private static final class Phrase {
        /** The amount of a PART with ALL; 0 is that of a DESCRIPTION alone. */
        private static final int EVERY = -1;

        private static final int AT_PART = 0;
        private static final int BEHIND_ALL = 1;
        private static final int BEHIND_NUMBER = 2;
        private static final int AT_DESCRIPTION = 3;
        private static final int BEHIND_WORD = 4;

        private final int[] amounts = new int[MOST_TOKENS];
        private final int[] mains = new int[MOST_TOKENS];
        private final int[] starts = new int[MOST_TOKENS];
        private final int[] ends = new int[MOST_TOKENS];
        private int parts = 0;

        /** Bit 0 THE, 1 A, 2 MY, 3 OTHER. */
        private final int[] articles = new int[MOST_TOKENS];
        private final int[] leading = new int[MOST_TOKENS];
        private final int[] lasts = new int[MOST_TOKENS];
        private int descriptions = 0;

        private int state = AT_PART;
        private int words = 0;

        /** FAULT of a ROW; it is a PHRASE, which is then held here, if there is none. */
        int read(int[] tokens, int size) {
            parts = 0;
            descriptions = 0;
            state = AT_PART;
            for (int i = 0; i < size && i < tokens.length; i++) {
                if (!take(tokens[i])) {
                    return i;
                }
            }
            return mayEnd() ? NOTHING : size;
        }

        /** Whether what was read is a DESCRIPTION alone. */
        boolean isDescription() {
            return parts == 1 && descriptions == 1 && amounts[0] == 0;
        }

        int amountOf(int part) {
            return isPart(part) ? amounts[part] : 0;
        }

        /** The DESCRIPTION of a PART, NOTHING for ALL without one. */
        int mainOf(int part) {
            return isPart(part) ? mains[part] : NOTHING;
        }

        int exceptsStart(int part) {
            return isPart(part) ? starts[part] : 0;
        }

        int exceptsEnd(int part) {
            return isPart(part) ? ends[part] : 0;
        }

        boolean tells(int description, int article) {
            return isOwn(description) && (articles[description] & 1 << (article - THE)) != 0;
        }

        int leadingOf(int description) {
            return isOwn(description) ? leading[description] : 0;
        }

        int lastOf(int description) {
            return isOwn(description) ? lasts[description] : NO_WORD;
        }

        private boolean isPart(int part) {
            return part >= 0 && part < parts && part < MOST_TOKENS;
        }

        private boolean isOwn(int description) {
            return description >= 0 && description < descriptions && description < MOST_TOKENS;
        }

        private boolean take(int token) {
            if (token == AND) {
                return mayEnd() && closePart();
            }
            if (token == EXCEPT) {
                return mayEnd() && amountOf(parts - 1) == EVERY && openDescription();
            }
            if (state == AT_PART) {
                return takeAtPart(token);
            }
            if (state == BEHIND_ALL || state == BEHIND_NUMBER) {
                return openMain() && (token == OF || takeInDescription(token));
            }
            return takeInDescription(token);
        }

        /** Whether the TOKENS so far are a PHRASE. */
        private boolean mayEnd() {
            return state == BEHIND_ALL || state == BEHIND_WORD;
        }

        private boolean takeAtPart(int token) {
            if (!openPart()) {
                return false;
            }
            if (token == ALL) {
                return setAmount(EVERY, BEHIND_ALL);
            }
            if (isNumber(token)) {
                return setAmount(token - NUMBER_SHIFT, BEHIND_NUMBER);
            }
            return openMain() && takeInDescription(token);
        }

        private boolean takeInDescription(int token) {
            int own = descriptions - 1;
            if (isWord(token)) {
                return addWord(token);
            }
            if (!isArticle(token) || !isOwn(own) || words > 0 || tells(own, token)) {
                return false;
            }
            articles[own] |= 1 << (token - THE);
            return true;
        }

        private boolean closePart() {
            state = AT_PART;
            return true;
        }

        private boolean openPart() {
            if (parts >= MOST_TOKENS) {
                return false;
            }
            amounts[parts] = 0;
            mains[parts] = NOTHING;
            starts[parts] = descriptions;
            ends[parts] = descriptions;
            parts++;
            return true;
        }

        private boolean setAmount(int amount, int next) {
            int part = parts - 1;
            if (!isPart(part)) {
                return false;
            }
            amounts[part] = amount;
            state = next;
            return true;
        }

        /** The DESCRIPTION of the PART itself; its EXCEPTS start behind it. */
        private boolean openMain() {
            int part = parts - 1;
            if (!isPart(part) || !openDescription()) {
                return false;
            }
            mains[part] = descriptions - 1;
            starts[part] = descriptions;
            return true;
        }

        private boolean openDescription() {
            int part = parts - 1;
            if (!isPart(part) || descriptions >= MOST_TOKENS) {
                return false;
            }
            articles[descriptions] = 0;
            leading[descriptions] = 0;
            lasts[descriptions] = NO_WORD;
            words = 0;
            descriptions++;
            ends[part] = descriptions;
            state = AT_DESCRIPTION;
            return true;
        }

        private boolean addWord(int w) {
            int own = descriptions - 1;
            if (!isOwn(own) || words >= MOST_WORDS) {
                return false;
            }
            if (words > 0) {
                leading[own] |= 1 << lasts[own];
            }
            lasts[own] = w;
            words++;
            state = BEHIND_WORD;
            return true;
        }
    }
}
