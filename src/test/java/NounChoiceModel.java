import java.util.ArrayList;
import java.util.Arrays;
import java.util.LinkedHashSet;
import java.util.List;
import java.util.Random;
import java.util.Set;
import java.util.TreeMap;
import java.util.TreeSet;
import java.util.function.IntPredicate;
import java.util.stream.Collectors;
import java.util.stream.IntStream;

/** Long runs of calls, each answer against a second program of the document that is written with sets and lists. */
public final class NounChoiceModel {
    private static final int RUNS = 3000, CALLS = 512;

    public static void main(String[] args) {
        TreeMap<Integer, Integer> ends = new TreeMap<>();
        for (int run = 0; run < RUNS; run++) {
            if (!sameAnswers(run, ends)) {
                System.exit(1);
            }
        }
        System.out.println("all answers are as the model's; ends of choose() and reply(): " + ends);
        for (int end : new int[] {-18, -17, -16, -15, -14, -13, -12, -11, -4, 0, 1, 2}) {
            if (ends.getOrDefault(end, 0) < 100) {
                System.out.println("too few runs end with " + end);
                System.exit(1);
            }
        }
    }

    private static boolean sameAnswers(int run, TreeMap<Integer, Integer> ends) {
        Random random = new Random(run);
        NounChoice x = new NounChoice();
        Model model = new Model();
        List<String> log = new ArrayList<>();
        int things = run % 10 == 0 ? 32 : 4 + random.nextInt(6);
        List<int[]> queue = new ArrayList<>();
        for (int call = 0; call < CALLS; call++) {
            if (queue.isEmpty()) {
                if (call < things) {
                    queue.add(new int[] {0});
                } else {
                    next(random, call < 7 * things, model.asked != null, queue);
                }
            }
            int[] c = queue.remove(0);
            int got = answer(x, c);
            int want = model.answer(c);
            log.add(Arrays.toString(c) + " " + got);
            if (c[0] == 13 || c[0] == 14) {
                ends.merge(got, 1, Integer::sum);
            }
            if (got != want) {
                System.out.println("run " + run + ", due is " + want + " for the last of");
                log.forEach(System.out::println);
                return false;
            }
        }
        return true;
    }

    /** Calls are numbered in the order of the document, from 0 thing to 18 count. */
    private static void next(Random random, boolean early, boolean asked, List<int[]> queue) {
        int dice = early ? 0 : random.nextInt(100);
        if (dice < 25) {
            queue.add(change(random, early && random.nextInt(3) > 0 ? 1 : random.nextInt(10)));
        } else if (dice < 93) {
            if (asked ? dice < 80 : dice < 28) {
                for (int changes = random.nextInt(5) - 2; changes > 0; changes--) {
                    queue.add(change(random, 1 + random.nextInt(9)));
                }
                queue.add(new int[] {11});
                answerWords(random, queue);
                queue.add(new int[] {14});
            } else {
                phrase(random, queue);
                queue.add(new int[] {13});
            }
            look(random, queue);
        } else if (dice < 97) {
            phrase(random, queue);
            queue.add(new int[] {12, anyThing(random)});
            queue.add(new int[] {11});
        } else {
            queue.add(new int[] {10, odd(random, random.nextInt(61))});
        }
    }

    private static int odd(Random random, int usual) {
        int[] strange = {-2, -1, 30, 32, 33, 38, 61, Integer.MIN_VALUE, Integer.MAX_VALUE};
        return random.nextInt(25) == 0 ? strange[random.nextInt(strange.length)] : usual;
    }

    private static int anyThing(Random random) {
        return odd(random, random.nextInt(random.nextInt(10) == 0 ? 32 : 8));
    }

    /** Few WORDS, so that many THINGS FIT. */
    private static int anyWord(Random random) {
        return odd(random, random.nextInt(10) == 0 ? random.nextInt(30) : random.nextInt(5));
    }

    private static int[] change(Random random, int call) {
        switch (call) {
            case 1: return new int[] {1, anyThing(random), anyWord(random), random.nextInt(2), random.nextInt(6) == 0 ? 0 : 1};
            case 2: return new int[] {2, anyThing(random), odd(random, random.nextInt(3) - 1)};
            case 3: return new int[] {3, anyThing(random), odd(random, random.nextInt(3) == 0 ? random.nextInt(4) : 1 + random.nextInt(2))};
            case 4: return new int[] {4, anyThing(random), odd(random, random.nextInt(4)), odd(random, random.nextInt(5) == 0 ? random.nextInt(19) - 9 : 0)};
            case 5: return new int[] {5, odd(random, random.nextInt(3)), odd(random, random.nextInt(12) - 1)};
            case 6: return new int[] {6, odd(random, random.nextInt(4)), odd(random, random.nextInt(10))};
            case 7: return new int[] {7, odd(random, random.nextInt(6) == 0 ? random.nextInt(6) : 32)};
            case 8: return new int[] {8, anyThing(random)};
            case 9: return new int[] {9, anyThing(random), anyThing(random)};
            default: return new int[] {random.nextInt(6) == 0 ? 0 : 8, anyThing(random)};
        }
    }

    private static void phrase(Random random, List<int[]> queue) {
        queue.add(new int[] {11});
        int parts = 1 + random.nextInt(1 + random.nextInt(4));
        for (int p = 0; p < parts; p++) {
            if (p > 0) {
                token(random, queue, 36);
            }
            int sort = random.nextInt(8);
            if (sort < 2) {
                token(random, queue, 34);
                if (random.nextInt(3) > 0) {
                    of(random, queue);
                    description(random, queue);
                }
                for (int e = random.nextInt(3); e > 0; e--) {
                    token(random, queue, 35);
                    description(random, queue);
                }
            } else if (sort < 4) {
                token(random, queue, 41 + random.nextInt(random.nextInt(5) == 0 ? 20 : 3));
                of(random, queue);
                description(random, queue);
            } else {
                description(random, queue);
            }
        }
    }

    private static void of(Random random, List<int[]> queue) {
        if (random.nextInt(3) == 0) {
            token(random, queue, 37);
        }
    }

    private static void description(Random random, List<int[]> queue) {
        for (int article = 30; article <= 33; article++) {
            if (random.nextInt(12) == 0) {
                token(random, queue, article);
            }
        }
        for (int w = random.nextInt(5) == 0 ? random.nextInt(3) : 0; w >= 0; w--) {
            token(random, queue, random.nextInt(5));
        }
    }

    private static void token(Random random, List<int[]> queue, int usual) {
        queue.add(new int[] {10, random.nextInt(120) == 0 ? random.nextInt(62) : usual});
    }

    private static void answerWords(Random random, List<int[]> queue) {
        if (random.nextInt(3) == 0) {
            token(random, queue, 41 + random.nextInt(4));
            return;
        }
        for (int w = random.nextInt(10) == 0 ? 6 : random.nextInt(2); w >= 0; w--) {
            token(random, queue, random.nextInt(5));
        }
    }

    private static void look(Random random, List<int[]> queue) {
        for (int what = 0; what < 3; what++) {
            queue.add(new int[] {17, what});
        }
        queue.add(new int[] {15, -1});
        for (int i = random.nextInt(4); i >= 0; i--) {
            queue.add(new int[] {15, odd(random, random.nextInt(6))});
        }
        queue.add(new int[] {16, -1, odd(random, 0)});
        for (int i = random.nextInt(5); i >= 0; i--) {
            queue.add(new int[] {16, odd(random, random.nextInt(5)), odd(random, random.nextInt(4) - 1)});
        }
        queue.add(new int[] {18, odd(random, random.nextInt(6))});
    }

    private static int answer(NounChoice x, int[] c) {
        switch (c[0]) {
            case 0: return x.thing();
            case 1: return x.word(c[1], c[2], c[3] == 1, c[4] == 1);
            case 2: return x.kind(c[1], c[2]);
            case 3: return x.place(c[1], c[2]);
            case 4: return x.mark(c[1], c[2], c[3]);
            case 5: return x.plural(c[1], c[2]);
            case 6: return x.weight(c[1], c[2]);
            case 7: return x.limit(c[1]);
            case 8: return x.score(c[1]);
            case 9: return x.alike(c[1], c[2]);
            case 10: return x.type(c[1]);
            case 11: return x.wipe();
            case 12: return x.fits(c[1]);
            case 13: return x.choose();
            case 14: return x.reply();
            case 15: return x.chosen(c[1]);
            case 16: return x.asked(c[1], c[2]);
            case 17: return x.told(c[1]);
            default: return x.count(c[1]);
        }
    }

    private static final class Thing {
        final int number;
        final Set<Integer> nouns = new TreeSet<>();
        final Set<Integer> adjectives = new TreeSet<>();
        int kind = -1;
        int place = 1;
        final List<Integer> marks = new ArrayList<>(List.of(0, 0, 0, 0));

        Thing(int number) {
            this.number = number;
        }

        boolean hasWord(int w) {
            return nouns.contains(w) || adjectives.contains(w);
        }

        boolean there() {
            return place == 1 || place == 2;
        }

        boolean like(Thing o) {
            return kind != -1 && kind == o.kind && nouns.equals(o.nouns) && adjectives.equals(o.adjectives)
                && place == o.place && marks.equals(o.marks);
        }
    }

    /** A ROW is read by cutting it: at AND into PARTS, a PART at EXCEPT, and so on. */
    private static final class Model {
        final List<Thing> things = new ArrayList<>();
        final int[] plurals = new int[16];
        final int[] weights = {1, 1, 1, 1};
        int limit = 32;
        List<Integer> row = new ArrayList<>();
        List<List<Integer>> phrase = new ArrayList<>();
        final TreeMap<Integer, List<Thing>> left = new TreeMap<>();
        List<Thing> chosen = new ArrayList<>();
        List<Thing> asked = null;
        int askedPart;
        int[] told = {-1, -1, -1};

        Model() {
            Arrays.fill(plurals, -1);
        }

        boolean in(int v, int low, int high) {
            return v >= low && v <= high;
        }

        Thing of(int n) {
            return in(n, 0, things.size() - 1) ? things.get(n) : null;
        }

        int answer(int[] c) {
            Thing t = c.length > 1 ? of(c[1]) : null;
            switch (c[0]) {
                case 0:
                    if (things.size() == 32) {
                        return -3;
                    }
                    things.add(new Thing(things.size()));
                    return things.size() - 1;
                case 1: {
                    if (t == null || !in(c[2], 0, 29)) {
                        return -1;
                    }
                    Set<Integer> words = c[3] == 1 ? t.nouns : t.adjectives;
                    boolean changed = c[4] == 1 ? words.add(c[2]) : words.remove(c[2]);
                    return changed == (c[4] == 1) ? 0 : 1;
                }
                case 2: {
                    if (t == null || !in(c[2], -1, 15)) {
                        return -1;
                    }
                    int was = t.kind + 1;
                    t.kind = c[2];
                    return was;
                }
                case 3: {
                    if (t == null || !in(c[2], 0, 3)) {
                        return -1;
                    }
                    int was = t.place;
                    t.place = c[2];
                    return was;
                }
                case 4: return t == null || !in(c[2], 0, 3) || !in(c[3], -9, 9) ? -1 : t.marks.set(c[2], c[3]) + 9;
                case 5: {
                    if (!in(c[1], 0, 15) || !in(c[2], -1, 29)) {
                        return -1;
                    }
                    int was = plurals[c[1]];
                    plurals[c[1]] = c[2];
                    return was + 1;
                }
                case 6: {
                    if (!in(c[1], 0, 3) || !in(c[2], 0, 9)) {
                        return -1;
                    }
                    int was = weights[c[1]];
                    weights[c[1]] = c[2];
                    return was;
                }
                case 7: {
                    if (!in(c[1], 0, 32)) {
                        return -1;
                    }
                    int was = limit;
                    limit = c[1];
                    return was;
                }
                case 8: return t == null ? -1 : 1000 + points(t);
                case 9: return t == null || of(c[2]) == null ? -1 : t.like(of(c[2])) ? 1 : 0;
                default: return answerOfPhrases(c);
            }
        }

        int answerOfPhrases(int[] c) {
            switch (c[0]) {
                case 10:
                    if (!in(c[1], 0, 37) && !in(c[1], 41, 60)) {
                        return -1;
                    }
                    if (row.size() == 30) {
                        return -3;
                    }
                    row.add(c[1]);
                    return row.size();
                case 11: {
                    int was = row.size();
                    row = new ArrayList<>();
                    return was;
                }
                case 12: {
                    Thing t = of(c[1]);
                    if (t == null) {
                        return -1;
                    }
                    return isDescription(row) ? (one(t, row) ? 1 : 0) + (many(t, row) ? 2 : 0) : -2;
                }
                case 13: return choose();
                case 14: return asked == null ? -4 : reply();
                case 15: return c[1] == -1 ? chosen.size() : in(c[1], 0, chosen.size() - 1) ? chosen.get(c[1]).number : -1;
                case 16: {
                    List<List<Thing>> groups = groups();
                    if (c[1] == -1) {
                        return groups.size();
                    }
                    if (!in(c[1], 0, groups.size() - 1)) {
                        return -1;
                    }
                    List<Thing> group = groups.get(c[1]);
                    return c[2] == -1 ? group.size() : in(c[2], 0, group.size() - 1) ? group.get(c[2]).number : -1;
                }
                case 17: return in(c[1], 0, 2) ? told[c[1]] : -1;
                default:
                    switch (c[1]) {
                        case 0: return things.size();
                        case 1: return (int) things.stream().filter(Thing::there).count();
                        case 2: return (int) things.stream().filter(t -> t.place == 2).count();
                        case 3: return row.size();
                        case 4: return phrase.size();
                        case 5: return limit;
                        default: return -1;
                    }
            }
        }

        int points(Thing t) {
            return IntStream.range(0, 4).map(r -> weights[r] * t.marks.get(r)).sum();
        }

        List<List<Thing>> groups() {
            List<List<Thing>> groups = new ArrayList<>();
            for (Thing t : asked == null ? List.<Thing>of() : asked) {
                List<Thing> own = groups.stream().filter(g -> g.get(0).like(t)).findFirst().orElse(null);
                if (own == null) {
                    own = new ArrayList<>();
                    groups.add(own);
                }
                own.add(t);
            }
            return groups;
        }

        static List<List<Integer>> cut(List<Integer> tokens, int at) {
            List<List<Integer>> pieces = new ArrayList<>();
            pieces.add(new ArrayList<>());
            for (int token : tokens) {
                if (token == at) {
                    pieces.add(new ArrayList<>());
                } else {
                    pieces.get(pieces.size() - 1).add(token);
                }
            }
            return pieces;
        }

        static boolean isDescription(List<Integer> tokens) {
            int n = 0;
            while (n < tokens.size() && tokens.get(n) >= 30 && tokens.get(n) <= 33) {
                n++;
            }
            List<Integer> words = tokens.subList(n, tokens.size());
            return new TreeSet<>(tokens.subList(0, n)).size() == n
                && words.size() >= 1 && words.size() <= 6 && words.stream().allMatch(w -> w < 30);
        }

        /** A PART without ALL, ALL OF, a number, a number and OF. */
        static List<Integer> described(List<Integer> piece) {
            int n = 0;
            if (!piece.isEmpty() && (piece.get(0) == 34 || piece.get(0) > 40)) {
                n = piece.size() > 1 && piece.get(1) == 37 ? 2 : 1;
            }
            return piece.subList(n, piece.size());
        }

        static boolean isPart(List<Integer> part) {
            List<List<Integer>> pieces = cut(part, 35);
            List<Integer> first = pieces.get(0);
            boolean all = !first.isEmpty() && first.get(0) == 34;
            return (all || pieces.size() == 1)
                && pieces.subList(1, pieces.size()).stream().allMatch(Model::isDescription)
                && (isDescription(described(first)) || first.equals(List.of(34)));
        }

        static boolean isPhrase(List<Integer> tokens) {
            return cut(tokens, 36).stream().allMatch(Model::isPart);
        }

        /** A ROW goes on if one of a few tails makes it a PHRASE. */
        static boolean goesOn(List<Integer> tokens) {
            for (List<Integer> tail : List.of(List.<Integer>of(), List.of(0))) {
                List<Integer> longer = new ArrayList<>(tokens);
                longer.addAll(tail);
                if (isPhrase(longer)) {
                    return true;
                }
            }
            return false;
        }

        static int phraseFault(List<Integer> tokens) {
            for (int i = 1; i <= tokens.size(); i++) {
                if (!goesOn(tokens.subList(0, i))) {
                    return i - 1;
                }
            }
            return isPhrase(tokens) ? -1 : tokens.size();
        }

        static int replyFault(List<Integer> tokens) {
            if (tokens.isEmpty()) {
                return 0;
            }
            boolean number = tokens.get(0) > 40;
            int n = 0;
            while (n < tokens.size() && n < (number ? 1 : 6) && (number || tokens.get(n) < 30)) {
                n++;
            }
            return n == tokens.size() ? -1 : n;
        }

        boolean allowed(Thing t, List<Integer> d) {
            return (!d.contains(32) || t.place == 2) && (!d.contains(33) || !chosen.contains(t));
        }

        boolean wordsAhead(Thing t, List<Integer> d) {
            return d.subList(0, d.size() - 1).stream().filter(w -> w < 30).allMatch(t::hasWord);
        }

        boolean one(Thing t, List<Integer> d) {
            return allowed(t, d) && wordsAhead(t, d) && t.nouns.contains(d.get(d.size() - 1));
        }

        boolean many(Thing t, List<Integer> d) {
            return allowed(t, d) && wordsAhead(t, d) && t.kind >= 0 && plurals[t.kind] == d.get(d.size() - 1);
        }

        boolean fit(Thing t, List<Integer> d) {
            return one(t, d) || many(t, d);
        }

        int choose() {
            List<Integer> tokens = row;
            row = new ArrayList<>();
            int fault = phraseFault(tokens);
            if (fault != -1) {
                told = new int[] {-1, fault, -1};
                return -11;
            }
            phrase = cut(tokens, 36);
            left.clear();
            return goThrough();
        }

        int reply() {
            List<Integer> tokens = row;
            row = new ArrayList<>();
            int fault = replyFault(tokens);
            if (fault != -1) {
                told = new int[] {-1, fault, -1};
                return -11;
            }
            List<Thing> remain;
            if (tokens.get(0) > 40) {
                int g = tokens.get(0) - 41;
                remain = g < groups().size() ? groups().get(g) : List.of();
            } else {
                remain = asked.stream().filter(t -> tokens.stream().allMatch(t::hasWord)).collect(Collectors.toList());
            }
            if (remain.isEmpty()) {
                told = new int[] {askedPart, -1, -1};
                return -18;
            }
            left.put(askedPart, remain);
            return goThrough();
        }

        int end(int part, int reason, int size) {
            told = new int[] {part, -1, size};
            return -10 - reason;
        }

        int goThrough() {
            asked = null;
            LinkedHashSet<Thing> all = new LinkedHashSet<>();
            for (int p = 0; p < phrase.size(); p++) {
                List<List<Integer>> pieces = cut(phrase.get(p), 35);
                List<Integer> first = pieces.get(0);
                List<Integer> d = described(first);
                List<Thing> fitting = new ArrayList<>(things);
                if (!d.isEmpty()) {
                    fitting.removeIf(t -> !fit(t, d));
                }
                if (fitting.isEmpty()) {
                    return end(p, 2, 0);
                }
                List<Thing> c = fitting.stream().filter(Thing::there).collect(Collectors.toList());
                if (c.isEmpty()) {
                    return end(p, 3, 0);
                }
                for (List<Integer> except : pieces.subList(1, pieces.size())) {
                    if (!c.removeIf(t -> fit(t, except))) {
                        return end(p, 4, c.size());
                    }
                }
                if (c.isEmpty()) {
                    return end(p, 5, 0);
                }
                if (first.get(0) > 40) {
                    int n = first.get(0) - 40;
                    if (c.size() < n) {
                        return end(p, 6, c.size());
                    }
                    List<Thing> sorted = new ArrayList<>(c);
                    sorted.sort((a, b) -> points(a) != points(b) ? points(b) - points(a) : a.number - b.number);
                    c.retainAll(sorted.subList(0, n));
                    all.addAll(c);
                    continue;
                }
                if (first.get(0) == 34) {
                    all.addAll(c);
                    continue;
                }
                if (c.stream().anyMatch(t -> many(t, d))) {
                    c.stream().filter(t -> many(t, d)).forEach(all::add);
                    continue;
                }
                List<Thing> best = new ArrayList<>(c);
                if (left.containsKey(p)) {
                    best.retainAll(left.get(p));
                }
                if (best.isEmpty()) {
                    return end(p, 3, 0);
                }
                int top = best.stream().mapToInt(this::points).max().getAsInt();
                best.removeIf(t -> points(t) < top);
                IntPredicate likeAll = i -> best.stream().allMatch(o -> o == best.get(i) || o.like(best.get(i)));
                if (!d.contains(31) && !IntStream.range(0, best.size()).allMatch(likeAll)) {
                    asked = best;
                    askedPart = p;
                    told = new int[] {p, -1, c.size()};
                    return 0;
                }
                all.add(best.get(0));
            }
            told = new int[] {-1, -1, -1};
            if (all.size() > limit) {
                return -17;
            }
            chosen = new ArrayList<>(all);
            return chosen.size();
        }
    }
}
