/** Each promise of the document by hand: ordinary inputs, the edges that it names, and wrong inputs. */
public final class NounChoicePromises {
    private static final int BAD = NounChoice.BAD, NONE = NounChoice.NONE, FULL = NounChoice.FULL, TURN = NounChoice.TURN;
    private static final int THE = 30, A = 31, MY = 32, OTHER = 33, ALL = 34, EXCEPT = 35, AND = 36, OF = 37, N = 40;
    private static final int AWAY = 0, HERE = 1, HELD = 2, HIDDEN = 3;
    private static final int MIN = Integer.MIN_VALUE, MAX = Integer.MAX_VALUE;

    /** WORDS of the small world below. */
    private static final int COIN = 0, LAMP = 1, RED = 5, BLUE = 6, COINS = 8, LAMPS = 9;

    private static int wrong = 0;
    private static String promise = "";

    public static void main(String[] args) {
        promise = "1";
        newObject();
        promise = "2";
        thing();
        promise = "3";
        word();
        promise = "4";
        kind();
        promise = "5";
        place();
        promise = "6";
        mark();
        promise = "7";
        plural();
        promise = "8";
        weight();
        promise = "9";
        limit();
        promise = "10";
        score();
        promise = "11";
        alike();
        promise = "12";
        type();
        promise = "13";
        wipe();
        promise = "14";
        fits();
        fitsByArticles();
        fitsOnlyDescriptions();
        promise = "15";
        chooseOne();
        chooseMany();
        chooseNumbers();
        chooseAllButSome();
        chooseParts();
        chooseReasons();
        chooseNoPhrase();
        choosePastLimit();
        promise = "16";
        replyByWords();
        replyByNumber();
        replyNone();
        replyAgain();
        replyInLaterParts();
        replyToChangedThings();
        promise = "17";
        chosen();
        promise = "18";
        asked();
        promise = "19";
        told();
        promise = "20";
        count();
        System.out.println(wrong == 0 ? "all promises hold" : wrong + " answers are not as due");
        if (wrong != 0) {
            System.exit(1);
        }
    }

    private static void due(String call, long got, long want) {
        if (got != want) {
            wrong++;
            System.out.println("promise " + promise + ": " + call + " answered " + got + ", due is " + want);
        }
    }

    private static void row(NounChoice x, int... tokens) {
        x.wipe();
        for (int token : tokens) {
            x.type(token);
        }
    }

    private static int choose(NounChoice x, int... tokens) {
        row(x, tokens);
        return x.choose();
    }

    private static int reply(NounChoice x, int... tokens) {
        row(x, tokens);
        return x.reply();
    }

    private static void dueChosen(String when, NounChoice x, int... want) {
        due(when + ": chosen(-1)", x.chosen(-1), want.length);
        for (int i = 0; i < want.length; i++) {
            due(when + ": chosen(" + i + ")", x.chosen(i), want[i]);
        }
        due(when + ": chosen behind the last", x.chosen(want.length), BAD);
    }

    private static void dueAsked(String when, NounChoice x, int[]... groups) {
        due(when + ": asked(-1, 0)", x.asked(-1, 0), groups.length);
        for (int g = 0; g < groups.length; g++) {
            due(when + ": asked(" + g + ", -1)", x.asked(g, -1), groups[g].length);
            for (int i = 0; i < groups[g].length; i++) {
                due(when + ": asked(" + g + ", " + i + ")", x.asked(g, i), groups[g][i]);
            }
            due(when + ": asked behind the last of " + g, x.asked(g, groups[g].length), BAD);
        }
        due(when + ": asked behind the last", x.asked(groups.length, -1), BAD);
    }

    private static void dueTold(String when, NounChoice x, int part, int fault, int size) {
        due(when + ": told(0)", x.told(0), part);
        due(when + ": told(1)", x.told(1), fault);
        due(when + ": told(2)", x.told(2), size);
    }

    private static int[] group(int... things) {
        return things;
    }

    private static NounChoice things(int n) {
        NounChoice x = new NounChoice();
        for (int i = 0; i < n; i++) {
            x.thing();
        }
        return x;
    }

    /** 0 red coin, 1 blue coin, 2 coin, 3 red lamp, 4 lamp, 5 lamp like 4; coins are KIND 0, lamps KIND 1. */
    private static NounChoice world() {
        NounChoice x = things(6);
        for (int t = 0; t < 6; t++) {
            x.word(t, t < 3 ? COIN : LAMP, true, true);
            x.kind(t, t < 3 ? 0 : 1);
        }
        x.word(0, RED, false, true);
        x.word(1, BLUE, false, true);
        x.word(3, RED, false, true);
        x.plural(0, COINS);
        x.plural(1, LAMPS);
        return x;
    }

    private static void newObject() {
        NounChoice x = new NounChoice();
        due("count(0)", x.count(0), 0);
        due("count(1)", x.count(1), 0);
        due("count(2)", x.count(2), 0);
        due("count(3)", x.count(3), 0);
        due("count(4)", x.count(4), 0);
        due("count(5)", x.count(5), 32);
        for (int k = 0; k < 16; k++) {
            due("plural of " + k, x.plural(k, -1), 0);
        }
        for (int r = 0; r < 4; r++) {
            due("weight of " + r, x.weight(r, 1), 1);
        }
        dueChosen("new", x);
        dueAsked("new", x);
        dueTold("new", x, -1, -1, -1);
        due("reply()", x.reply(), TURN);
        due("wipe()", x.wipe(), 0);
        due("BAD", BAD, -1);
        due("NONE", NONE, -2);
        due("FULL", FULL, -3);
        due("TURN", TURN, -4);
    }

    private static void thing() {
        NounChoice x = new NounChoice();
        for (int t = 0; t < 32; t++) {
            due("thing() " + t, x.thing(), t);
            due("count(0)", x.count(0), t + 1);
        }
        due("thing() 33", x.thing(), FULL);
        due("thing() 34", x.thing(), FULL);
        due("count(0)", x.count(0), 32);
        due("score(31)", x.score(31), 1000);
    }

    private static void word() {
        NounChoice x = things(32);
        due("noun on", x.word(0, 29, true, true), 0);
        due("noun on again", x.word(0, 29, true, true), 1);
        due("adjective is apart", x.word(0, 29, false, true), 0);
        due("noun off", x.word(0, 29, true, false), 1);
        due("noun off again", x.word(0, 29, true, false), 0);
        due("adjective stayed", x.word(0, 29, false, false), 1);
        due("other word", x.word(0, 28, true, true), 0);
        due("other thing", x.word(31, 28, true, true), 0);
        due("word 0", x.word(31, 0, true, true), 0);
        due("word 28 stayed", x.word(31, 28, true, true), 1);
        for (int bad : new int[] {-1, 30, 31, 32, MIN, MAX}) {
            due("no word " + bad, x.word(0, bad, true, true), BAD);
            due("no word " + bad, x.word(0, bad, false, false), BAD);
        }
        for (int bad : new int[] {-1, 32, MIN, MAX}) {
            due("no thing " + bad, x.word(bad, 0, true, true), BAD);
        }
        due("thing not made", things(1).word(1, 0, true, true), BAD);
    }

    private static void kind() {
        NounChoice x = things(2);
        due("at first", x.kind(0, 15), 0);
        due("15", x.kind(0, 0), 16);
        due("0", x.kind(0, -1), 1);
        due("-1", x.kind(0, 3), 0);
        due("other thing", x.kind(1, 3), 0);
        due("16", x.kind(0, 16), BAD);
        due("-2", x.kind(0, -2), BAD);
        due("MIN", x.kind(0, MIN), BAD);
        due("MAX", x.kind(0, MAX), BAD);
        due("no thing", x.kind(2, 0), BAD);
        due("no thing", x.kind(-1, 0), BAD);
        due("stayed", x.kind(0, 3), 4);
    }

    private static void place() {
        NounChoice x = things(2);
        due("at first", x.place(0, HIDDEN), HERE);
        due("hidden", x.place(0, HELD), HIDDEN);
        due("held", x.place(0, AWAY), HELD);
        due("away", x.place(0, AWAY), AWAY);
        due("4", x.place(0, 4), BAD);
        due("-1", x.place(0, -1), BAD);
        due("MIN", x.place(0, MIN), BAD);
        due("MAX", x.place(0, MAX), BAD);
        due("no thing", x.place(2, 1), BAD);
        due("no thing", x.place(-1, 1), BAD);
        due("stayed", x.place(0, HERE), AWAY);
        due("other thing", x.place(1, HERE), HERE);
    }

    private static void mark() {
        NounChoice x = things(32);
        due("at first", x.mark(31, 3, 9), 9);
        due("9", x.mark(31, 3, -9), 18);
        due("-9", x.mark(31, 3, 1), 0);
        due("other rule", x.mark(31, 0, 2), 9);
        due("other thing", x.mark(30, 3, 2), 9);
        due("10", x.mark(31, 3, 10), BAD);
        due("-10", x.mark(31, 3, -10), BAD);
        due("MIN", x.mark(31, 3, MIN), BAD);
        due("rule 4", x.mark(31, 4, 0), BAD);
        due("rule -1", x.mark(31, -1, 0), BAD);
        due("rule -1", x.mark(0, MIN, 0), BAD);
        due("no thing", x.mark(32, 0, 0), BAD);
        due("no thing", x.mark(-1, 0, 0), BAD);
        due("no thing", things(1).mark(1, 0, 0), BAD);
        due("stayed", x.mark(31, 3, 0), 10);
    }

    private static void plural() {
        NounChoice x = new NounChoice();
        due("at first", x.plural(15, 29), 0);
        due("29", x.plural(15, 0), 30);
        due("0", x.plural(15, -1), 1);
        due("-1", x.plural(15, 7), 0);
        due("other kind", x.plural(0, 7), 0);
        due("30", x.plural(15, 30), BAD);
        due("-2", x.plural(15, -2), BAD);
        due("MAX", x.plural(15, MAX), BAD);
        due("kind 16", x.plural(16, 0), BAD);
        due("kind -1", x.plural(-1, 0), BAD);
        due("kind MIN", x.plural(MIN, 0), BAD);
        due("stayed", x.plural(15, -1), 8);
    }

    private static void weight() {
        NounChoice x = new NounChoice();
        due("at first", x.weight(3, 9), 1);
        due("9", x.weight(3, 0), 9);
        due("0", x.weight(3, 5), 0);
        due("other rule", x.weight(0, 5), 1);
        due("10", x.weight(3, 10), BAD);
        due("-1", x.weight(3, -1), BAD);
        due("MIN", x.weight(3, MIN), BAD);
        due("rule 4", x.weight(4, 0), BAD);
        due("rule -1", x.weight(-1, 0), BAD);
        due("rule MAX", x.weight(MAX, 0), BAD);
        due("stayed", x.weight(3, 5), 5);
    }

    private static void limit() {
        NounChoice x = new NounChoice();
        due("at first", x.limit(0), 32);
        due("0", x.limit(32), 0);
        due("32", x.limit(5), 32);
        due("33", x.limit(33), BAD);
        due("-1", x.limit(-1), BAD);
        due("MIN", x.limit(MIN), BAD);
        due("stayed", x.count(5), 5);
    }

    private static void score() {
        NounChoice x = things(2);
        due("at first", x.score(0), 1000);
        x.mark(0, 0, 1);
        x.mark(0, 1, 2);
        x.mark(0, 2, -9);
        x.mark(0, 3, 4);
        due("weights 1", x.score(0), 998);
        x.weight(0, 9);
        x.weight(1, 3);
        x.weight(2, 0);
        x.weight(3, 2);
        due("weights", x.score(0), 1000 + 9 + 6 + 8);
        due("other thing", x.score(1), 1000);
        for (int r = 0; r < 4; r++) {
            x.weight(r, 9);
            x.mark(0, r, 9);
            x.mark(1, r, -9);
        }
        due("greatest", x.score(0), 1324);
        due("least", x.score(1), 676);
        due("no thing", x.score(2), BAD);
        due("no thing", x.score(-1), BAD);
        due("no thing", x.score(MIN), BAD);
        due("no thing", x.score(MAX), BAD);
    }

    private static void alike() {
        NounChoice x = things(3);
        due("kind -1", x.alike(0, 1), 0);
        due("kind -1 and itself", x.alike(0, 0), 0);
        x.kind(0, 15);
        due("one with a kind", x.alike(0, 1), 0);
        due("one with a kind", x.alike(1, 0), 0);
        due("itself", x.alike(0, 0), 1);
        x.kind(1, 15);
        due("both", x.alike(0, 1), 1);
        due("both", x.alike(1, 0), 1);
        x.kind(1, 14);
        due("other kind", x.alike(0, 1), 0);
        x.kind(1, 15);
        x.word(0, 3, true, true);
        due("nouns", x.alike(0, 1), 0);
        x.word(1, 3, false, true);
        due("noun and adjective", x.alike(0, 1), 0);
        x.word(1, 3, true, true);
        due("adjectives", x.alike(0, 1), 0);
        x.word(0, 3, false, true);
        due("same words", x.alike(0, 1), 1);
        x.place(0, HELD);
        due("places", x.alike(0, 1), 0);
        x.place(1, HELD);
        for (int r = 0; r < 4; r++) {
            x.mark(0, r, 1);
            due("mark " + r, x.alike(0, 1), 0);
            x.mark(1, r, 1);
            due("mark " + r, x.alike(0, 1), 1);
        }
        x.mark(0, 0, 2);
        x.mark(0, 1, 0);
        due("same score, other marks", x.alike(0, 1), 0);
        x.weight(0, 0);
        x.weight(1, 0);
        due("marks without weight", x.alike(0, 1), 0);
        due("no thing", x.alike(0, 3), BAD);
        due("no thing", x.alike(3, 0), BAD);
        due("no thing", x.alike(-1, 0), BAD);
        due("no thing", x.alike(0, MIN), BAD);
        due("no thing", x.alike(MAX, MAX), BAD);
    }

    private static void type() {
        NounChoice x = new NounChoice();
        int n = 0;
        for (int token = 0; token <= 37; token++) {
            if (n == 30) {
                due("full", x.type(token), FULL);
                x.wipe();
                n = 0;
            }
            n++;
            due("type(" + token + ")", x.type(token), n);
        }
        x.wipe();
        for (int token = 41; token <= 60; token++) {
            due("type(" + token + ")", x.type(token), token - 40);
        }
        for (int bad : new int[] {-1, 38, 39, 40, 61, 100, MIN, MAX}) {
            due("type(" + bad + ")", x.type(bad), BAD);
        }
        due("count(3)", x.count(3), 20);
        for (int i = 21; i <= 30; i++) {
            due("type(0)", x.type(0), i);
        }
        due("type(0) beyond", x.type(0), FULL);
        due("no token ahead of full", x.type(38), BAD);
        due("count(3)", x.count(3), 30);
    }

    private static void wipe() {
        NounChoice x = new NounChoice();
        due("empty", x.wipe(), 0);
        x.type(1);
        x.type(2);
        due("two", x.wipe(), 2);
        due("again", x.wipe(), 0);
        due("count(3)", x.count(3), 0);
        for (int i = 0; i < 31; i++) {
            x.type(i % 30);
        }
        due("full", x.wipe(), 30);
        due("type behind", x.type(0), 1);
    }

    private static void fits() {
        NounChoice x = world();
        row(x, COIN);
        due("coin 0", x.fits(0), 1);
        due("coin 3", x.fits(3), 0);
        row(x, RED, COIN);
        due("red coin 0", x.fits(0), 1);
        due("red coin 1", x.fits(1), 0);
        row(x, COIN, RED);
        due("last is no noun", x.fits(0), 0);
        row(x, RED);
        due("adjective alone", x.fits(0), 0);
        row(x, BLUE, RED, COIN);
        due("the first of three is no word of it", x.fits(0), 0);
        row(x, RED, BLUE, COIN);
        due("the second of three is no word of it", x.fits(0), 0);
        row(x, RED, COIN, COIN);
        due("three words of it", x.fits(0), 1);
        row(x, COINS);
        due("coins 0", x.fits(0), 2);
        due("coins 3", x.fits(3), 0);
        row(x, RED, COINS);
        due("red coins 0", x.fits(0), 2);
        due("red coins 1", x.fits(1), 0);
        row(x, COIN, COINS);
        due("a noun ahead", x.fits(1), 2);
        row(x, COINS, COINS);
        due("the plural is no noun ahead", x.fits(0), 0);
        row(x, COINS, COIN);
        due("the plural ahead", x.fits(0), 0);
        x.plural(0, COIN);
        row(x, COIN);
        due("both", x.fits(0), 3);
        row(x, RED, COIN);
        due("both", x.fits(0), 3);
        due("neither", x.fits(1), 0);
        x.kind(0, -1);
        due("no kind", x.fits(0), 1);
        x.word(0, COIN, true, false);
        x.kind(0, 0);
        due("plural alone", x.fits(0), 2);
        x.word(0, COIN, false, true);
        due("plural and adjective", x.fits(0), 2);
        due("row stays", x.count(3), 2);
        x.place(0, HIDDEN);
        due("hidden fits too", x.fits(0), 2);
        row(x, RED, RED, RED, RED, RED, COIN);
        due("six words", x.fits(0), 2);
        due("no thing", x.fits(6), BAD);
        due("no thing", x.fits(-1), BAD);
        due("no thing", x.fits(MAX), BAD);
    }

    private static void fitsByArticles() {
        NounChoice x = world();
        row(x, MY, COIN);
        due("my, here", x.fits(0), 0);
        x.place(0, HELD);
        due("my, held", x.fits(0), 1);
        x.place(0, AWAY);
        due("my, away", x.fits(0), 0);
        row(x, OTHER, COINS);
        due("other, none chosen", x.fits(0), 2);
        due("other, none chosen", x.fits(1), 2);
        choose(x, ALL, COINS);
        dueChosen("coins there", x, 1, 2);
        row(x, OTHER, COINS);
        due("other, chosen", x.fits(1), 0);
        due("other, not chosen", x.fits(0), 2);
        row(x, OTHER, COIN);
        due("other, chosen", x.fits(2), 0);
        row(x, OTHER, MY, A, THE, COIN);
        due("all four, not held", x.fits(0), 0);
        x.place(0, HELD);
        due("all four", x.fits(0), 1);
        x.place(1, HELD);
        due("all four, chosen", x.fits(1), 0);
        row(x, THE, A, COIN);
        due("the, a", x.fits(1), 1);
        choose(x, RED, LAMP);
        row(x, OTHER, COIN);
        due("other, chosen earlier", x.fits(1), 1);
    }

    private static void fitsOnlyDescriptions() {
        NounChoice x = world();
        int[][] none = {
            {}, {THE}, {THE, A}, {THE, THE, COIN}, {A, MY, A, COIN}, {COIN, THE}, {ALL}, {ALL, COIN}, {ALL, OF, COIN},
            {41, COIN}, {41, OF, COIN}, {41}, {OF, COIN}, {EXCEPT, COIN}, {COIN, AND, COIN}, {COIN, AND}, {COIN, EXCEPT, COIN},
            {RED, RED, RED, RED, RED, RED, COIN}, {ALL, EXCEPT, COIN}, {COIN, 41}, {AND}, {COIN, OF, COIN},
        };
        for (int[] tokens : none) {
            row(x, tokens);
            due("none " + java.util.Arrays.toString(tokens), x.fits(0), NONE);
            due("no thing ahead of none", x.fits(6), BAD);
            due("row stays", x.count(3), tokens.length);
        }
        choose(x, COIN, AND, LAMP);
        row(x, ALL);
        x.fits(0);
        due("the phrase stays", x.count(4), 2);
        due("asked stays", x.asked(-1, 0), 3);
        due("told stays", x.told(2), 3);
    }

    private static void chooseOne() {
        NounChoice x = world();
        due("one fits", choose(x, RED, COIN), 1);
        dueChosen("one fits", x, 0);
        dueTold("one fits", x, -1, -1, -1);
        due("row is empty", x.count(3), 0);
        due("three fit", choose(x, COIN), 0);
        dueAsked("three fit", x, group(0), group(1), group(2));
        dueChosen("asked", x, 0);
        due("row is empty", x.count(3), 0);
        due("a", choose(x, A, COIN), 1);
        dueChosen("a", x, 0);
        dueAsked("a", x);
        due("the asks", choose(x, THE, COIN), 0);
        x.mark(2, 3, 1);
        due("the greatest score", choose(x, COIN), 1);
        dueChosen("the greatest score", x, 2);
        x.mark(1, 0, 1);
        due("two with the greatest", choose(x, COIN), 0);
        dueAsked("two with the greatest", x, group(1), group(2));
        dueTold("two with the greatest", x, 0, -1, 3);
        due("a, the least of the greatest", choose(x, A, COIN), 1);
        dueChosen("a, the least of the greatest", x, 1);
        x.mark(1, 0, -9);
        x.mark(2, 3, -9);
        x.mark(0, 0, -8);
        choose(x, COIN);
        dueChosen("negative scores", x, 0);
        x.mark(3, 0, -1);
        due("alike", choose(x, LAMP), 1);
        dueChosen("alike", x, 4);
        x.kind(4, -1);
        x.kind(5, -1);
        due("no kind", choose(x, LAMP), 0);
        dueAsked("no kind", x, group(4), group(5));
        x.place(4, HIDDEN);
        due("hidden", choose(x, LAMP), 1);
        dueChosen("hidden", x, 5);
        due("other", choose(x, OTHER, LAMP), 1);
        dueChosen("other", x, 3);
        due("my", choose(x, MY, LAMP), -12);
        x.place(5, HELD);
        due("my", choose(x, MY, LAMP), 1);
        dueChosen("my", x, 5);
    }

    private static void chooseMany() {
        NounChoice x = world();
        due("plural", choose(x, COINS), 3);
        dueChosen("plural", x, 0, 1, 2);
        due("a plural", choose(x, A, COINS), 3);
        x.place(1, AWAY);
        due("plural, those there", choose(x, COINS), 2);
        dueChosen("plural, those there", x, 0, 2);
        x.mark(2, 0, 9);
        due("plural whatever the scores", choose(x, COINS), 2);
        x.word(3, COINS, true, true);
        due("some as many, one as one", choose(x, COINS), 2);
        dueChosen("some as many, one as one", x, 0, 2);
        due("all with both", choose(x, ALL, COINS), 3);
        dueChosen("all with both", x, 0, 2, 3);
        due("number with both", choose(x, N + 3, COINS), 3);
        x.place(0, AWAY);
        x.place(2, HIDDEN);
        due("those as many are not there", choose(x, COINS), 1);
        dueChosen("those as many are not there", x, 3);
        due("other and plural", choose(x, OTHER, LAMPS), 2);
        dueChosen("other and plural", x, 4, 5);
    }

    private static void chooseNumbers() {
        NounChoice x = things(32);
        for (int t = 0; t < 32; t++) {
            x.word(t, COIN, true, true);
            x.mark(t, t % 4, t % 3);
        }
        due("20", choose(x, N + 20, COIN), 20);
        int[] best = new int[20];
        int n = 0;
        for (int t = 0; t < 32; t++) {
            // ten have 2, eleven have 1: one of those, the last, is one too many.
            if (t % 3 == 2 || (t % 3 == 1 && t < 31 && n < 20)) {
                best[n] = t;
                n++;
            }
        }
        dueChosen("20", x, best);
        due("1", choose(x, N + 1, COIN), 1);
        dueChosen("1", x, 2);
        due("2 of", choose(x, N + 2, OF, THE, COIN), 2);
        dueChosen("2 of", x, 2, 5);
        x.mark(31, 3, 9);
        x.mark(9, 1, 9);
        due("3 by their numbers", choose(x, N + 3, A, COIN), 3);
        dueChosen("3 by their numbers", x, 2, 9, 31);
        due("3 others", choose(x, N + 3, OTHER, COIN), 3);
        dueChosen("3 others", x, 5, 8, 11);
        for (int t = 2; t < 32; t++) {
            x.place(t, AWAY);
        }
        due("as many as there are", choose(x, N + 2, COIN), 2);
        due("one more", choose(x, N + 3, COIN), -16);
        dueTold("one more", x, 0, -1, 2);
        dueChosen("one more", x, 0, 1);
        dueAsked("one more", x);
    }

    private static void chooseAllButSome() {
        NounChoice x = world();
        due("all", choose(x, ALL), 6);
        dueChosen("all", x, 0, 1, 2, 3, 4, 5);
        x.place(5, AWAY);
        x.place(4, HELD);
        due("all there", choose(x, ALL), 5);
        dueChosen("all there", x, 0, 1, 2, 3, 4);
        due("all except", choose(x, ALL, EXCEPT, COIN), 2);
        dueChosen("all except", x, 3, 4);
        due("all except plural", choose(x, ALL, EXCEPT, THE, COINS), 2);
        dueChosen("all except plural", x, 3, 4);
        due("all coins except", choose(x, ALL, OF, THE, COINS, EXCEPT, RED, COIN), 2);
        dueChosen("all coins except", x, 1, 2);
        due("two excepts", choose(x, ALL, COINS, EXCEPT, RED, COIN, EXCEPT, A, BLUE, COIN), 1);
        dueChosen("two excepts", x, 2);
        due("except my", choose(x, ALL, EXCEPT, MY, LAMP), 4);
        dueChosen("except my", x, 0, 1, 2, 3);
        due("except other", choose(x, ALL, EXCEPT, OTHER, LAMP), 4);
        dueChosen("except other: 4 is not of the latest", x, 0, 1, 2, 3);
    }

    private static void chooseParts() {
        NounChoice x = world();
        due("two parts", choose(x, RED, LAMP, AND, BLUE, COIN), 2);
        dueChosen("two parts", x, 3, 1);
        due("count(4)", x.count(4), 2);
        due("only once", choose(x, RED, LAMP, AND, ALL, AND, N + 2, COIN), 6);
        dueChosen("only once", x, 3, 0, 1, 2, 4, 5);
        due("count(4)", x.count(4), 3);
        due("excepts end with the part", choose(x, ALL, COINS, EXCEPT, RED, COIN, AND, RED, COIN), 3);
        dueChosen("excepts end with the part", x, 1, 2, 0);
        due("all and all", choose(x, ALL, AND, ALL, EXCEPT, COIN), 6);
        choose(x, RED, COIN);
        due("other is by the latest, not by this phrase", choose(x, BLUE, COIN, AND, A, OTHER, COIN), 1);
        dueChosen("other is by the latest, not by this phrase", x, 1);
        due("asked at the second", choose(x, RED, COIN, AND, COIN), 0);
        dueTold("asked at the second", x, 1, -1, 3);
        dueChosen("asked at the second", x, 1);
        int[] many = new int[29];
        for (int i = 0; i < 29; i++) {
            many[i] = i % 2 == 0 ? COINS : AND;
        }
        due("fifteen parts", choose(x, many), 3);
        due("fifteen parts", x.count(4), 15);
        int[] excepts = new int[29];
        for (int i = 0; i < 29; i++) {
            excepts[i] = i == 0 ? ALL : i % 2 == 1 ? EXCEPT : i == 2 ? COIN : LAMP;
        }
        due("fourteen excepts", choose(x, excepts), -14);
        due("fourteen excepts", x.count(4), 1);
    }

    private static void chooseReasons() {
        NounChoice x = world();
        choose(x, RED, COIN);
        choose(x, COIN);
        due("2", choose(x, RED, COIN, AND, 20), -12);
        dueTold("2", x, 1, -1, 0);
        dueChosen("2", x, 0);
        dueAsked("2: nothing is asked", x);
        due("2: reply", x.reply(), TURN);
        due("the phrase", x.count(4), 2);
        x.place(0, AWAY);
        x.place(3, HIDDEN);
        due("3 away", choose(x, RED, COIN), -13);
        dueTold("3", x, 0, -1, 0);
        due("3 hidden", choose(x, RED, LAMP), -13);
        due("4", choose(x, ALL, COINS, EXCEPT, LAMP), -14);
        dueTold("4", x, 0, -1, 2);
        due("4 behind one that takes", choose(x, ALL, EXCEPT, BLUE, COIN, EXCEPT, BLUE, COIN, EXCEPT, LAMP), -14);
        dueTold("4: C as it was then", x, 0, -1, 3);
        due("4 ahead of 5", choose(x, ALL, COINS, EXCEPT, COINS, EXCEPT, COINS), -14);
        dueTold("4 ahead of 5", x, 0, -1, 0);
        due("4: those not there are not taken away", choose(x, ALL, EXCEPT, RED, COIN), -14);
        due("5", choose(x, ALL, COINS, EXCEPT, COIN), -15);
        dueTold("5", x, 0, -1, 0);
        due("5 in the second", choose(x, BLUE, COIN, AND, ALL, EXCEPT, COIN, EXCEPT, LAMPS), -15);
        dueTold("5 in the second", x, 1, -1, 0);
        due("6", choose(x, N + 3, COINS), -16);
        dueTold("6", x, 0, -1, 2);
        for (int t = 0; t < 6; t++) {
            x.place(t, AWAY);
        }
        due("all, none there", choose(x, ALL), -13);
        dueChosen("what was chosen stays", x, 0);
        due("all, no things", choose(new NounChoice(), ALL), -12);
        due("all except, no things", choose(new NounChoice(), ALL, EXCEPT, COIN), -12);
    }

    private static void chooseNoPhrase() {
        NounChoice x = world();
        choose(x, RED, COIN);
        choose(x, RED, COIN, AND, COIN);
        due("none", choose(x, COIN, AND), -11);
        dueTold("none", x, -1, 2, -1);
        due("the phrase stays", x.count(4), 2);
        dueChosen("none", x, 0);
        dueAsked("none", x, group(0), group(1), group(2));
        due("row is empty", x.count(3), 0);
        due("empty", x.choose(), -11);
        dueTold("empty", x, -1, 0, -1);
        due("the phrase is asked still", reply(x, BLUE), 2);
        dueChosen("the phrase is asked still", x, 0, 1);
        int[][] rows = {
            {THE}, {THE, THE, COIN}, {THE, A, MY, OTHER, THE}, {COIN, THE}, {ALL, OF}, {ALL, OF, EXCEPT, COIN}, {ALL, ALL},
            {ALL, EXCEPT}, {ALL, EXCEPT, AND}, {ALL, EXCEPT, EXCEPT}, {ALL, AND}, {N + 1}, {N + 1, OF}, {N + 1, AND}, {N + 1, N + 1},
            {N + 2, COIN, EXCEPT, RED, COIN}, {COIN, EXCEPT, COIN}, {EXCEPT}, {AND}, {OF}, {COIN, OF}, {COIN, N + 1}, {ALL, N + 1},
            {0, 1, 2, 3, 4, 5, 6}, {0, AND, AND}, {ALL, COIN, EXCEPT, COIN, EXCEPT}, {ALL, OF, OF}, {THE, ALL}, {THE, OF}, {THE, N + 1},
            {ALL, COIN, AND, COIN, EXCEPT}, {ALL, EXCEPT, ALL}, {N + 1, ALL}, {ALL, EXCEPT, THE, THE}, {ALL, COIN, OF},
        };
        int[] faults = {
            1, 1, 4, 1, 2, 2, 1,
            2, 2, 2, 2, 1, 2, 1, 1,
            2, 1, 0, 0, 0, 1, 1, 1,
            6, 2, 5, 2, 1, 1, 1,
            4, 2, 1, 3, 2,
        };
        for (int i = 0; i < rows.length; i++) {
            String what = java.util.Arrays.toString(rows[i]);
            due(what, choose(x, rows[i]), -11);
            dueTold(what, x, -1, faults[i], -1);
        }
        int[] thirty = new int[30];
        for (int i = 0; i < 30; i++) {
            thirty[i] = i % 2 == 0 ? COIN : AND;
        }
        due("thirty, and more should come", choose(x, thirty), -11);
        dueTold("thirty, and more should come", x, -1, 30, -1);
        due("six words, six excepted", choose(x, ALL, OF, OTHER, MY, A, THE, 0, 1, 2, 3, 4, 5, EXCEPT, 0, 1, 2, 3, 4, 5), -12);
    }

    private static void choosePastLimit() {
        NounChoice x = world();
        choose(x, RED, COIN);
        choose(x, COIN);
        x.limit(2);
        due("7", choose(x, COINS), -17);
        dueTold("7", x, -1, -1, -1);
        dueChosen("7", x, 0);
        dueAsked("7", x);
        due("7: reply", x.reply(), TURN);
        due("as many", choose(x, RED, COIN, AND, BLUE, COIN), 2);
        due("as many, some twice", choose(x, RED, COIN, AND, BLUE, COIN, AND, N + 2, COINS), 2);
        due("7 is behind the other reasons", choose(x, COINS, AND, 20), -12);
        due("7 is behind asking", choose(x, COINS, AND, LAMP), 0);
        due("7 behind a reply", reply(x, N + 1), -17);
        dueAsked("7 behind a reply", x);
        dueTold("7 behind a reply", x, -1, -1, -1);
        x.limit(0);
        due("0", choose(x, RED, COIN), -17);
        due("count(4)", x.count(4), 1);
        dueChosen("0", x, 0, 1);
    }

    private static void replyByWords() {
        NounChoice x = world();
        choose(x, COIN);
        due("adjective", reply(x, RED), 1);
        dueChosen("adjective", x, 0);
        dueTold("adjective", x, -1, -1, -1);
        dueAsked("adjective", x);
        due("row is empty", x.count(3), 0);
        due("again", reply(x, RED), TURN);
        choose(x, COIN);
        due("several words, a noun ahead", reply(x, COIN, BLUE, COIN, BLUE, COIN, BLUE), 1);
        dueChosen("several words, a noun ahead", x, 1);
        choose(x, LAMP);
        due("a word of all", reply(x, LAMP), 0);
        dueAsked("a word of all", x, group(3), group(4, 5));
        dueTold("a word of all", x, 0, -1, 3);
        due("the plural is no word of it", reply(x, LAMPS), -18);
        choose(x, THE, OTHER, COIN);
        dueAsked("other", x, group(0), group(2));
        due("other, in a reply", reply(x, RED), 1);
        dueChosen("other, in a reply", x, 0);
    }

    private static void replyByNumber() {
        NounChoice x = world();
        choose(x, LAMP);
        due("the second group", reply(x, N + 2), 1);
        dueChosen("the second group", x, 4);
        choose(x, LAMP);
        due("the first group", reply(x, N + 1), 1);
        dueChosen("the first group", x, 3);
        choose(x, LAMP);
        due("beyond", reply(x, N + 3), -18);
        due("beyond", reply(x, N + 20), -18);
        dueAsked("beyond", x, group(3), group(4, 5));
        x.word(5, BLUE, false, true);
        dueAsked("alike now", x, group(3), group(4), group(5));
        due("alike now", reply(x, N + 3), 1);
        dueChosen("alike now", x, 5);
    }

    private static void replyNone() {
        NounChoice x = world();
        row(x, RED);
        due("not asked", x.reply(), TURN);
        due("row stays", x.count(3), 1);
        dueTold("turn tells nothing", x, -1, -1, -1);
        choose(x, RED, COIN, AND, COIN);
        int[][] rows = {{}, {THE}, {N + 1, N + 1}, {N + 1, RED}, {RED, N + 1}, {RED, AND}, {0, 0, 0, 0, 0, 0, 0}, {ALL}, {OF}, {RED, THE}};
        int[] faults = {0, 0, 1, 1, 1, 1, 6, 0, 0, 1};
        for (int i = 0; i < rows.length; i++) {
            String what = java.util.Arrays.toString(rows[i]);
            due(what, reply(x, rows[i]), -11);
            dueTold(what, x, -1, faults[i], -1);
            due(what + ": row is empty", x.count(3), 0);
            dueAsked(what, x, group(0), group(1), group(2));
        }
        due("8", reply(x, RED, BLUE), -18);
        dueTold("8", x, 1, -1, -1);
        due("8: row is empty", x.count(3), 0);
        dueAsked("8", x, group(0), group(1), group(2));
        dueChosen("8", x);
        due("8, then one", reply(x, BLUE), 2);
        dueChosen("8, then one", x, 0, 1);
        row(x, BLUE);
        due("turn", x.reply(), TURN);
        due("turn: row stays", x.count(3), 1);
    }

    private static void replyAgain() {
        NounChoice x = things(4);
        for (int t = 0; t < 4; t++) {
            x.word(t, COIN, true, true);
            x.word(t, RED, false, t != 3);
            x.word(t, BLUE, false, t != 0);
        }
        choose(x, COIN);
        due("narrower", reply(x, RED), 0);
        dueAsked("narrower", x, group(0), group(1), group(2));
        dueTold("narrower", x, 0, -1, 4);
        due("narrower again", reply(x, BLUE), 0);
        dueAsked("narrower again", x, group(1), group(2));
        due("the number is of the groups now", reply(x, N + 2), 1);
        dueChosen("the number is of the groups now", x, 2);
        due("a new phrase has no replies", choose(x, COIN), 0);
        dueAsked("a new phrase has no replies", x, group(0), group(1), group(2), group(3));
        x.mark(0, 0, 1);
        due("the score among those left", reply(x, RED), 1);
        dueChosen("the score among those left", x, 0);
        choose(x, THE, COIN);
        dueChosen("the score", x, 0);
        x.mark(1, 0, 1);
        choose(x, COIN);
        x.mark(3, 0, 9);
        due("T as it was asked, the score of those left alone", reply(x, BLUE), 1);
        dueChosen("T as it was asked, the score of those left alone", x, 1);
    }

    private static void replyInLaterParts() {
        NounChoice x = world();
        due("first", choose(x, COIN, AND, LAMP, AND, COIN), 0);
        dueTold("first", x, 0, -1, 3);
        due("second", reply(x, RED), 0);
        dueTold("second", x, 1, -1, 3);
        dueAsked("second", x, group(3), group(4, 5));
        due("third", reply(x, N + 2), 0);
        dueTold("third", x, 2, -1, 3);
        dueAsked("third", x, group(0), group(1), group(2));
        dueChosen("third", x);
        due("done", reply(x, BLUE), 3);
        dueChosen("done", x, 0, 4, 1);
        due("count(4)", x.count(4), 3);

        choose(x, LAMP, AND, COIN);
        reply(x, N + 2);
        dueTold("at the coin", x, 1, -1, 3);
        x.word(5, BLUE, false, true);
        due("an earlier part is asked anew", reply(x, RED), 0);
        dueTold("an earlier part is asked anew", x, 0, -1, 3);
        dueAsked("an earlier part is asked anew", x, group(4), group(5));
        due("the later reply is kept", reply(x, BLUE), 2);
        dueChosen("the later reply is kept", x, 5, 0);
    }

    private static void replyToChangedThings() {
        NounChoice x = world();
        choose(x, COIN);
        x.place(0, AWAY);
        dueAsked("T stays as it was asked", x, group(0), group(1), group(2));
        due("3: what is left is away", reply(x, RED), -13);
        dueTold("3: what is left is away", x, 0, -1, 0);
        dueAsked("3: nothing is asked", x);
        due("3: turn", reply(x, RED), TURN);
        x.place(0, HERE);
        choose(x, COIN);
        x.word(1, RED, false, true);
        x.word(1, BLUE, false, false);
        due("words as they are now", reply(x, RED), 1);
        dueChosen("words as they are now: 0 and 1 are alike", x, 0);
        x.word(1, BLUE, false, true);
        choose(x, COIN);
        x.plural(0, COIN);
        due("many now", reply(x, RED), 3);
        dueChosen("many now", x, 0, 1, 2);
        x.plural(0, -1);
        choose(x, COIN);
        for (int t = 0; t < 3; t++) {
            x.word(t, COIN, true, false);
        }
        due("none fits now", reply(x, N + 1), -12);
        dueTold("none fits now", x, 0, -1, 0);
        dueChosen("none fits now", x, 0, 1, 2);
    }

    private static void chosen() {
        NounChoice x = world();
        due("none", x.chosen(-1), 0);
        due("none", x.chosen(0), BAD);
        choose(x, LAMPS, AND, RED, COIN);
        dueChosen("in order", x, 3, 4, 5, 0);
        due("-2", x.chosen(-2), BAD);
        due("32", x.chosen(32), BAD);
        due("MIN", x.chosen(MIN), BAD);
        due("MAX", x.chosen(MAX), BAD);
        choose(x, RED, COIN);
        dueChosen("latest", x, 0);
        NounChoice full = things(32);
        choose(full, ALL);
        due("chosen(31)", full.chosen(31), 31);
        due("chosen(32)", full.chosen(32), BAD);
    }

    private static void asked() {
        NounChoice x = things(32);
        for (int t = 0; t < 32; t++) {
            x.word(t, COIN, true, true);
            x.kind(t, t % 3 == 2 ? -1 : t % 3);
        }
        due("not asked", x.asked(-1, 5), 0);
        due("not asked", x.asked(0, -1), BAD);
        choose(x, COIN);
        due("groups", x.asked(-1, 0), 12);
        due("groups, whatever i", x.asked(-1, MAX), 12);
        due("groups, whatever i", x.asked(-1, MIN), 12);
        due("size", x.asked(0, -1), 11);
        due("size", x.asked(1, -1), 11);
        due("of no kind", x.asked(2, -1), 1);
        for (int i = 0; i < 11; i++) {
            due("group 0", x.asked(0, i), i * 3);
            due("group 1", x.asked(1, i), i * 3 + 1);
        }
        for (int g = 2; g < 12; g++) {
            due("group " + g, x.asked(g, 0), (g - 2) * 3 + 2);
        }
        due("no group", x.asked(12, 0), BAD);
        due("no group", x.asked(12, -1), BAD);
        due("no group", x.asked(-2, -1), BAD);
        due("no group", x.asked(MIN, 0), BAD);
        due("no group", x.asked(MAX, 0), BAD);
        due("none in it", x.asked(0, 11), BAD);
        due("none in it", x.asked(0, -2), BAD);
        due("none in it", x.asked(0, MIN), BAD);
        due("none in it", x.asked(0, MAX), BAD);
        x.mark(3, 2, 1);
        due("alike now", x.asked(-1, 0), 13);
        due("alike now", x.asked(0, 1), 6);
        due("alike now", x.asked(3, 0), 3);
        x.kind(0, -1);
        due("alike now", x.asked(0, -1), 1);
        x.type(THE);
        x.reply();
        due("a row that is no reply", x.asked(-1, 0), 14);
        choose(x, N + 1, COIN);
        due("not asked", x.asked(-1, 0), 0);
    }

    private static void told() {
        NounChoice x = world();
        dueTold("before", x, -1, -1, -1);
        for (int bad : new int[] {-1, 3, MIN, MAX}) {
            due("told(" + bad + ")", x.told(bad), BAD);
        }
        choose(x, RED, COIN, AND, LAMP);
        dueTold("asked", x, 1, -1, 3);
        x.place(3, AWAY);
        dueTold("as it was", x, 1, -1, 3);
        choose(x, AND);
        dueTold("fault", x, -1, 0, -1);
        reply(x, BLUE);
        dueTold("8", x, 1, -1, -1);
        reply(x, BLUE, ALL);
        dueTold("fault of a reply", x, -1, 1, -1);
        reply(x, LAMP);
        dueTold("done", x, -1, -1, -1);
        choose(x, 20);
        dueTold("2", x, 0, -1, 0);
        reply(x, AND);
        dueTold("turn", x, 0, -1, 0);
        choose(x, N + 9, COIN);
        dueTold("6", x, 0, -1, 3);
        x.limit(1);
        choose(x, ALL);
        dueTold("7", x, -1, -1, -1);
    }

    private static void count() {
        NounChoice x = world();
        x.place(0, AWAY);
        x.place(1, HIDDEN);
        x.place(2, HELD);
        x.place(3, HELD);
        due("things", x.count(0), 6);
        due("there", x.count(1), 4);
        due("held", x.count(2), 2);
        due("tokens", x.count(3), 0);
        x.type(ALL);
        x.type(AND);
        due("tokens", x.count(3), 2);
        due("parts before", x.count(4), 0);
        x.choose();
        due("parts before", x.count(4), 0);
        choose(x, ALL, AND, ALL, AND, 20);
        due("parts", x.count(4), 3);
        due("tokens", x.count(3), 0);
        due("limit", x.count(5), 32);
        x.limit(7);
        due("limit", x.count(5), 7);
        for (int bad : new int[] {-1, 6, MIN, MAX}) {
            due("count(" + bad + ")", x.count(bad), BAD);
        }
    }
}
