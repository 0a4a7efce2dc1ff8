import java.util.ArrayList;
import java.util.Arrays;
import java.util.List;
import java.util.function.ToIntFunction;

/**
 * The boundary cases: each sentence of the document that names one stands here beside a test of its own.
 * No object is used for more calls than the document allows.
 */
public final class NounChoiceEdges {
    private static final int BAD = NounChoice.BAD, NONE = NounChoice.NONE, FULL = NounChoice.FULL, TURN = NounChoice.TURN;
    private static final int THE = 30, A = 31, MY = 32, OTHER = 33, ALL = 34, EXCEPT = 35, AND = 36, OF = 37, N = 40;
    private static final int AWAY = 0, HERE = 1, HELD = 2, HIDDEN = 3;
    private static final int MIN = Integer.MIN_VALUE, MAX = Integer.MAX_VALUE;
    private static final int NO_PHRASE = -11;

    /** WORDS of the small world below. */
    private static final int COIN = 0, LAMP = 1, RED = 5, BLUE = 6, COINS = 8, LAMPS = 9, UNKNOWN = 20;

    private static int tests = 0;
    private static int wrong = 0;
    private static String sentence = "";

    public static void main(String[] args) {
        termsOfThings();
        termsOfRows();
        termsOfFitting();
        termsOfParts();
        termsOfReplies();
        promisesOfThings();
        promisesOfRows();
        promisesOfChoosing();
        promisesOfAnswers();
        System.out.println(wrong == 0 ? tests + " boundary cases hold" : wrong + " answers are not as due");
        if (wrong != 0) {
            System.exit(1);
        }
    }

    // ---- which sentence has which test

    private static void termsOfThings() {
        edge("THINGS 0 .. 31", NounChoiceEdges::thingsFromFirstToLast);
        edge("have NOUNS and ADJECTIVES (WORDS, none at first)", NounChoiceEdges::noWordsAtFirst);
        edge("a KIND (0 .. 15, or - 1: none, at first)", NounChoiceEdges::everyKind);
        edge("a PLACE (0 AWAY, 1 HERE, at first, 2 HELD, 3 HIDDEN)", NounChoiceEdges::everyPlace);
        edge("a MARK (- 9 .. 9, 0 at first) by each of four RULES", NounChoiceEdges::everyMark);
        edge("A KIND may have a WORD as its PLURAL", NounChoiceEdges::everyPlural);
        edge("a RULE has a WEIGHT (0 .. 9, 1 at first)", NounChoiceEdges::everyWeight);
        edge("SCORE of a THING: WEIGHTS times MARKS, together.", NounChoiceEdges::leastAndGreatestScores);
        edge("THERE are THINGS that are HERE or HELD.", NounChoiceEdges::thereByPlaces);
        edge("Two THINGS are ALIKE if they have the same KIND (not - 1)", NounChoiceEdges::alikeOnlyWithKind);
    }

    private static void termsOfRows() {
        edge("A ROW has up to 30 TOKENS", NounChoiceEdges::rowOfThirty);
        edge("0 .. 29 a WORD", NounChoiceEdges::firstAndLastWord);
        edge("41 .. 60 the numbers 1 .. 20", NounChoiceEdges::firstAndLastNumber);
        edge("A PHRASE is PARTS with AND between, one at least.", NounChoiceEdges::onePartAtLeast);
        edge("A PART: ALL; ALL and EXCEPTS;", NounChoiceEdges::allAlone);
        edge("ALL or ALL OF, a DESCRIPTION, then EXCEPTS perhaps;", NounChoiceEdges::allOf);
        edge("a number, or a number and OF, then a DESCRIPTION;", NounChoiceEdges::numberOf);
        edge("a DESCRIPTION alone.", NounChoiceEdges::descriptionAlone);
        edge("EXCEPTS are EXCEPT and a DESCRIPTION, once or more.", NounChoiceEdges::oneExceptOrMore);
        edge("THE, A, MY, OTHER, in any order, each once at most, or none of them", NounChoiceEdges::articlesOnceAtMost);
        edge("then one to six WORDS.", NounChoiceEdges::oneToSixWords);
        edge("A REPLY is one to six WORDS", NounChoiceEdges::replyOfOneToSixWords);
        edge("or one number.", NounChoiceEdges::replyOfOneNumber);
        edge("FAULT: the first TOKEN with which no such ROW goes on", NounChoiceEdges::firstFault);
        edge("(the number of TOKENS, if more should come, be they 30 already).", NounChoiceEdges::moreShouldCome);
    }

    private static void termsOfFitting() {
        edge("as ONE if each of its WORDS is a NOUN or ADJECTIVE of the THING, and the last one a NOUN", NounChoiceEdges::lastIsNoun);
        edge("as MANY if the last one is the PLURAL of its KIND", NounChoiceEdges::lastIsPlural);
        edge("with MY only if it is HELD", NounChoiceEdges::myIsHeld);
        edge("with OTHER only if it is none of THE LATEST", NounChoiceEdges::otherIsNotLatest);
        edge("those that were CHOSEN last (none at first).", NounChoiceEdges::noLatestAtFirst);
    }

    private static void termsOfParts() {
        edge("(ALL without one: all THINGS)", NounChoiceEdges::allOfNoThings);
        edge("The first of these that holds is its REASON", NounChoiceEdges::firstReason);
        edge("with which all ends", NounChoiceEdges::endsAtFirstReason);
        edge("2 none FIT", NounChoiceEdges::reasonTwo);
        edge("3 C has none", NounChoiceEdges::reasonThree);
        edge("4 an EXCEPT takes none away", NounChoiceEdges::reasonFour);
        edge("(each in order takes away from C, as it is then, what FITS it)", NounChoiceEdges::exceptsInOrder);
        edge("5 C has none then", NounChoiceEdges::reasonFive);
        edge("6 with a number n: C has fewer than n.", NounChoiceEdges::reasonSix);
        edge("the n of C with the greatest SCORES, of like ones those with the lesser numbers", NounChoiceEdges::lesserNumbers);
        edge("without, if some of C FIT as MANY: all of these", NounChoiceEdges::oneOfManyThere);
        edge("If each two of T are ALIKE", NounChoiceEdges::noTwoOrLikeTwo);
        edge("or A is told: the least one of T", NounChoiceEdges::leastWithA);
        edge("if not, it is ASKED which, and all ends.", NounChoiceEdges::endsWhenAsked);
        edge("GROUPS: each one of T with those of T that are ALIKE with it, by their least numbers.", NounChoiceEdges::groupsByLeast);
        edge("each THING only once.", NounChoiceEdges::eachOnce);
        edge("REASON 7: these are more than LIMIT (32 at first)", NounChoiceEdges::reasonSeven);
        edge("then, too, nothing is CHOSEN.", NounChoiceEdges::nothingPastLimit);
    }

    private static void termsOfReplies() {
        edge("left are those of T (as it was ASKED)", NounChoiceEdges::setAsItWasAsked);
        edge("which have all its WORDS as NOUNS or ADJECTIVES", NounChoiceEdges::allWordsOfReply);
        edge("of the GROUP of its number (1 the first).", NounChoiceEdges::firstAndLastGroup);
        edge("None of T is left: REASON 8, and it is ASKED still.", NounChoiceEdges::reasonEight);
        edge("(behind a REPLY for this PART: that are left by it; none: REASON 3)", NounChoiceEdges::noneLeftThere);
        edge("for that PART (and for those of earlier REPLIES) with what is left alone.", NounChoiceEdges::earlierReplies);
    }

    private static void promisesOfThings() {
        edge("1: No THINGS", NounChoiceEdges::newHasNoThings);
        edge("1: no PLURALS", NounChoiceEdges::newHasNoPlurals);
        edge("1: an empty ROW", NounChoiceEdges::newHasEmptyRow);
        edge("1: nothing is CHOSEN or ASKED.", NounChoiceEdges::newHasNothingChosenOrAsked);
        edge("2: A THING more: its number. FULL: 32.", NounChoiceEdges::thingFull);
        edge("3: 1 it was, 0.", NounChoiceEdges::wordWas);
        edge("3: BAD: no THING, no WORD.", NounChoiceEdges::wordBad);
        edge("4: The KIND (- 1 .. 15) of a THING: what it was, and 1.", NounChoiceEdges::kindWas);
        edge("4: BAD: no THING, another KIND.", NounChoiceEdges::kindBad);
        edge("5: The PLACE (0 .. 3) of a THING: what it was.", NounChoiceEdges::placeWas);
        edge("5: BAD: no THING, another PLACE.", NounChoiceEdges::placeBad);
        edge("6: The MARK of a THING by a RULE (0 .. 3): what it was, and 9.", NounChoiceEdges::markWas);
        edge("6: BAD: no THING, RULE, not - 9 .. 9.", NounChoiceEdges::markBad);
        edge("7: The PLURAL of a KIND (0 .. 15), w = - 1: none: what it was, and 1.", NounChoiceEdges::pluralWas);
        edge("7: BAD: no KIND, no WORD.", NounChoiceEdges::pluralBad);
        edge("8: The WEIGHT of a RULE: what it was.", NounChoiceEdges::weightWas);
        edge("8: BAD: no RULE, not 0 .. 9.", NounChoiceEdges::weightBad);
        edge("9: LIMIT (0 .. 32): what it was.", NounChoiceEdges::limitWas);
        edge("9: BAD: another number.", NounChoiceEdges::limitBad);
        edge("10: The SCORE of a THING, and 1,000.", NounChoiceEdges::scoreShifted);
        edge("10: BAD: none such.", NounChoiceEdges::scoreBad);
        edge("11: two THINGS, or one and itself", NounChoiceEdges::alikeItself);
        edge("11: BAD: none such.", NounChoiceEdges::alikeBad);
        edge("11: (One of KIND - 1 is ALIKE with none.)", NounChoiceEdges::alikeNoKind);
    }

    private static void promisesOfRows() {
        edge("12: A TOKEN comes behind the ROW: how many it has.", NounChoiceEdges::typeCounts);
        edge("12: BAD: no TOKEN.", NounChoiceEdges::typeBad);
        edge("12: FULL: 30.", NounChoiceEdges::typeFull);
        edge("13: The ROW is empty: how many TOKENS it had.", NounChoiceEdges::wipeHad);
        edge("14: 1 as ONE, 2 as MANY, 3 both, 0.", NounChoiceEdges::fitsWays);
        edge("14: BAD: no THING.", NounChoiceEdges::fitsBad);
        edge("14: NONE: the ROW is none.", NounChoiceEdges::fitsNone);
        edge("14: (The ROW stays.)", NounChoiceEdges::fitsLeavesRow);
    }

    private static void promisesOfChoosing() {
        edge("15: The ROW, which is empty then", NounChoiceEdges::chooseEmptiesRow);
        edge("15: 0 it is ASKED which", NounChoiceEdges::chooseAsks);
        edge("15: - 11 the ROW is no PHRASE (THE PHRASE, what is CHOSEN and ASKED stay)", NounChoiceEdges::chooseNoPhrase);
        edge("15: - 10 less the REASON (nothing is ASKED then; what was CHOSEN stays).", NounChoiceEdges::chooseReasons);
        edge("16: The ROW, which is empty then, is a REPLY", NounChoiceEdges::replyEmptiesRow);
        edge("16: - 11 it is none", NounChoiceEdges::replyNone);
        edge("16: - 18: it is ASKED still", NounChoiceEdges::replyLeavesNone);
        edge("16: as choose()", NounChoiceEdges::replyReasons);
        edge("16: TURN: it is not ASKED (the ROW stays).", NounChoiceEdges::replyTurn);
    }

    private static void promisesOfAnswers() {
        edge("17: THING i that is CHOSEN (latest); i = - 1: how many.", NounChoiceEdges::chosenFromFirstToLast);
        edge("17: BAD: none such.", NounChoiceEdges::chosenBad);
        edge("18: THING i of GROUP g, by their numbers; i = - 1: how many it has", NounChoiceEdges::askedFromFirstToLast);
        edge("18: g = - 1 (whatever i): how many GROUPS.", NounChoiceEdges::askedGroups);
        edge("18: BAD: none such.", NounChoiceEdges::askedBad);
        edge("18: (No GROUPS, if it is not ASKED", NounChoiceEdges::askedNothing);
        edge("18: ALIKE are those that are so now, in a REPLY, too.)", NounChoiceEdges::askedAlikeNow);
        edge("19: Of the latest choose(), reply() that was not TURN", NounChoiceEdges::toldSkipsTurn);
        edge("19: 0 the PART at which it ended", NounChoiceEdges::toldFirstAndLastPart);
        edge("19: (- 1: none: all was gone through, or the ROW was none)", NounChoiceEdges::toldNoPart);
        edge("19: 1 FAULT (- 1: none)", NounChoiceEdges::toldFault);
        edge("19: 2 how many C had there in the end", NounChoiceEdges::toldInTheEnd);
        edge("19: (for 2, 3, 5: 0", NounChoiceEdges::toldNoneInTheEnd);
        edge("19: - 1: it ended at no PART, or with 8).", NounChoiceEdges::toldNoCount);
        edge("19: BAD: another number.", NounChoiceEdges::toldBad);
        edge("19: (- 1 before.)", NounChoiceEdges::toldBefore);
        edge("20: 0 THINGS, 1 those that are THERE, 2 HELD", NounChoiceEdges::countThings);
        edge("20: 3 TOKENS of the ROW", NounChoiceEdges::countTokens);
        edge("20: 4 PARTS of THE PHRASE (0 before)", NounChoiceEdges::countParts);
        edge("20: 5 LIMIT.", NounChoiceEdges::countLimit);
        edge("20: BAD: another number.", NounChoiceEdges::countBad);
        edge("An object is used for at most 512 calls after it has been made", NounChoiceEdges::allCallsOfAnObject);
    }

    // ---- helpers

    private static void edge(String words, Runnable test) {
        sentence = words;
        tests++;
        try {
            test.run();
        } catch (RuntimeException thrown) {
            wrong++;
            System.out.println("\"" + sentence + "\": threw " + thrown);
        }
    }

    private static void due(String call, long got, long want) {
        if (got != want) {
            wrong++;
            System.out.println("\"" + sentence + "\": " + call + " answered " + got + ", due is " + want);
        }
    }

    private static void row(NounChoice x, int... tokens) {
        x.wipe();
        for (int token : tokens) {
            x.type(token);
        }
    }

    private static int choose(NounChoice x, int... tokens) {
        row(x, tokens);
        return x.choose();
    }

    private static int reply(NounChoice x, int... tokens) {
        row(x, tokens);
        return x.reply();
    }

    private static void dueChosen(String when, NounChoice x, int... want) {
        due(when + ": chosen(-1)", x.chosen(-1), want.length);
        for (int i = 0; i < want.length; i++) {
            due(when + ": chosen(" + i + ")", x.chosen(i), want[i]);
        }
        due(when + ": chosen behind the last", x.chosen(want.length), BAD);
    }

    private static void dueAsked(String when, NounChoice x, int[]... groups) {
        due(when + ": asked(-1, 0)", x.asked(-1, 0), groups.length);
        for (int g = 0; g < groups.length; g++) {
            due(when + ": asked(" + g + ", -1)", x.asked(g, -1), groups[g].length);
            for (int i = 0; i < groups[g].length; i++) {
                due(when + ": asked(" + g + ", " + i + ")", x.asked(g, i), groups[g][i]);
            }
            due(when + ": asked behind the last of " + g, x.asked(g, groups[g].length), BAD);
        }
        due(when + ": asked behind the last", x.asked(groups.length, -1), BAD);
    }

    private static void dueTold(String when, NounChoice x, int part, int fault, int size) {
        due(when + ": told(0)", x.told(0), part);
        due(when + ": told(1)", x.told(1), fault);
        due(when + ": told(2)", x.told(2), size);
    }

    private static int[] group(int... things) {
        return things;
    }

    /** The ROW is a PHRASE, whatever is chosen by it, of so many PARTS. */
    private static void duePhrase(int parts, int... tokens) {
        NounChoice x = world();
        String what = Arrays.toString(tokens);
        due(what + " is a phrase", choose(x, tokens) == NO_PHRASE ? 0 : 1, 1);
        due(what + ": told(1)", x.told(1), -1);
        due(what + ": count(4)", x.count(4), parts);
    }

    private static void dueFault(int fault, int... tokens) {
        NounChoice x = world();
        String what = Arrays.toString(tokens);
        due(what, choose(x, tokens), NO_PHRASE);
        dueTold(what, x, -1, fault, -1);
        due(what + ": count(4)", x.count(4), 0);
    }

    private static void dueReplyFault(int fault, int... tokens) {
        NounChoice x = world();
        choose(x, COIN);
        String what = Arrays.toString(tokens);
        due("reply " + what, reply(x, tokens), NO_PHRASE);
        dueTold("reply " + what, x, -1, fault, -1);
    }

    private static int[] joined(int[]... rows) {
        return Arrays.stream(rows).flatMapToInt(Arrays::stream).toArray();
    }

    private static int[] times(int n, int... tokens) {
        int[] many = new int[n * tokens.length];
        for (int i = 0; i < many.length; i++) {
            many[i] = tokens[i % tokens.length];
        }
        return many;
    }

    private static int[] tokens(int... tokens) {
        return tokens;
    }

    private static NounChoice things(int n) {
        NounChoice x = new NounChoice();
        for (int i = 0; i < n; i++) {
            x.thing();
        }
        return x;
    }

    private static NounChoice coins(int n) {
        NounChoice x = things(n);
        for (int t = 0; t < n; t++) {
            x.word(t, COIN, true, true);
        }
        return x;
    }

    /** 0 red coin, 1 blue coin, 2 coin, 3 red lamp, 4 lamp, 5 lamp like 4; coins are KIND 0, lamps KIND 1. */
    private static NounChoice world() {
        NounChoice x = things(6);
        for (int t = 0; t < 6; t++) {
            x.word(t, t < 3 ? COIN : LAMP, true, true);
            x.kind(t, t < 3 ? 0 : 1);
        }
        x.word(0, RED, false, true);
        x.word(1, BLUE, false, true);
        x.word(3, RED, false, true);
        x.plural(0, COINS);
        x.plural(1, LAMPS);
        return x;
    }

    /** A world with something of everything: chosen, asked for the second of two parts, a reply begun. */
    private static NounChoice busy() {
        NounChoice x = world();
        x.place(4, HELD);
        x.mark(3, 2, -4);
        x.mark(5, 0, -2);
        x.mark(5, 1, 2);
        x.weight(3, 7);
        x.limit(9);
        choose(x, LAMPS);
        choose(x, RED, COIN, AND, OTHER, COIN);
        row(x, BLUE);
        return x;
    }

    /** What can be seen of a world: the calls change it, but two that are the same answer the same. */
    private static List<Integer> seen(NounChoice x) {
        List<Integer> all = new ArrayList<>();
        seenAnswers(x, all);
        for (int t = 0; t < 6; t++) {
            all.add(x.fits(t));
            all.add(x.score(t));
            all.add(x.alike(t, (t + 1) % 6));
        }
        all.add(x.reply());
        seenAnswers(x, all);
        seenThings(x, all);
        return all;
    }

    private static void seenAnswers(NounChoice x, List<Integer> all) {
        for (int what = 0; what < 6; what++) {
            all.add(x.count(what));
        }
        for (int what = 0; what < 3; what++) {
            all.add(x.told(what));
        }
        for (int i = -1; i < 4; i++) {
            all.add(x.chosen(i));
        }
        for (int g = -1; g < 4; g++) {
            for (int i = -1; i < 2; i++) {
                all.add(x.asked(g, i));
            }
        }
    }

    private static void seenThings(NounChoice x, List<Integer> all) {
        for (int t = 0; t < 6; t++) {
            for (int w = 0; w < 10; w++) {
                all.add(x.word(t, w, true, false));
                all.add(x.word(t, w, false, false));
            }
            all.add(x.kind(t, -1));
            all.add(x.place(t, HERE));
            for (int rule = 0; rule < 4; rule++) {
                all.add(x.mark(t, rule, 0));
            }
        }
        for (int k = 0; k < 16; k++) {
            all.add(x.plural(k, -1));
        }
        for (int rule = 0; rule < 4; rule++) {
            all.add(x.weight(rule, 1));
        }
        all.add(x.limit(32));
    }

    /** The call is refused with this answer, and changes nothing that can be seen. */
    private static void refused(String call, int answer, ToIntFunction<NounChoice> doing) {
        NounChoice x = busy();
        due(call, doing.applyAsInt(x), answer);
        List<Integer> got = seen(x);
        List<Integer> want = seen(busy());
        for (int i = 0; i < want.size(); i++) {
            due("what is seen behind " + call + ", answer " + i, got.get(i), want.get(i));
        }
    }

    // ---- Terms, part 1

    private static void thingsFromFirstToLast() {
        NounChoice x = things(32);
        due("score(0)", x.score(0), 1000);
        due("score(31)", x.score(31), 1000);
        due("score(32)", x.score(32), BAD);
        due("score(-1)", x.score(-1), BAD);
        x.word(31, COIN, true, true);
        due("the last is chosen", choose(x, COIN), 1);
        dueChosen("the last", x, 31);
        due("place of the last", x.place(31, HELD), HERE);
        due("held", x.count(2), 1);
    }

    private static void noWordsAtFirst() {
        NounChoice x = things(32);
        for (int t : new int[] {0, 13, 31}) {
            for (int w = 0; w < 30; w++) {
                due("noun " + w + " of " + t, x.word(t, w, true, false), 0);
                due("adjective " + w + " of " + t, x.word(t, w, false, false), 0);
            }
        }
        row(x, COIN);
        for (int t = 0; t < 32; t++) {
            due("fits(" + t + ")", x.fits(t), 0);
        }
    }

    private static void everyKind() {
        NounChoice x = things(32);
        for (int t = 0; t < 32; t++) {
            due("kind of " + t + " at first", x.kind(t, -1), 0);
        }
        for (int k = 0; k < 16; k++) {
            due("kind " + (k - 1), x.kind(31, k), k);
        }
        due("kind 15", x.kind(31, -1), 16);
        due("kind -1", x.kind(31, -1), 0);
    }

    private static void everyPlace() {
        NounChoice x = things(32);
        for (int t = 0; t < 32; t++) {
            due("place of " + t + " at first", x.place(t, AWAY), HERE);
        }
        for (int p = 1; p < 4; p++) {
            due("place " + (p - 1), x.place(31, p), p - 1);
        }
        due("place 3", x.place(31, AWAY), HIDDEN);
        due("place 0", x.place(31, AWAY), AWAY);
    }

    private static void everyMark() {
        NounChoice x = things(32);
        for (int t = 0; t < 32; t++) {
            for (int rule = 0; rule < 4; rule++) {
                due("mark of " + t + " by " + rule + " at first", x.mark(t, rule, 0), 9);
            }
        }
        for (int rule = 0; rule < 4; rule++) {
            x.mark(31, rule, -9);
            for (int v = -8; v <= 9; v++) {
                due("mark " + (v - 1), x.mark(31, rule, v), v - 1 + 9);
            }
            due("mark 9", x.mark(31, rule, 0), 18);
        }
    }

    private static void everyPlural() {
        NounChoice x = things(1);
        for (int k = 0; k < 16; k++) {
            x.kind(0, k);
            int w = k == 15 ? 29 : k;
            due("none yet", x.plural(k, w), 0);
            row(x, w);
            due("plural of " + k, x.fits(0), 2);
            x.kind(0, (k + 1) % 16);
            due("plural of another kind", x.fits(0), 0);
        }
    }

    private static void everyWeight() {
        NounChoice x = things(1);
        for (int rule = 0; rule < 4; rule++) {
            x.mark(0, rule, 1);
            due("at first", x.score(0), 1001);
            due("at first", x.weight(rule, 0), 1);
            due("without weight", x.score(0), 1000);
            for (int w = 1; w < 10; w++) {
                due("weight " + (w - 1), x.weight(rule, w), w - 1);
                due("score by " + w, x.score(0), 1000 + w);
            }
            x.mark(0, rule, 0);
        }
    }

    private static void leastAndGreatestScores() {
        NounChoice x = things(2);
        for (int rule = 0; rule < 4; rule++) {
            x.weight(rule, 9);
            x.mark(0, rule, 9);
            x.mark(1, rule, -9);
        }
        due("greatest", x.score(0), 1000 + 4 * 81);
        due("least", x.score(1), 1000 - 4 * 81);
        x.word(0, COIN, true, true);
        x.word(1, COIN, true, true);
        due("the greatest of all", choose(x, COIN), 1);
        dueChosen("the greatest of all", x, 0);
        x.place(0, AWAY);
        due("the least of all", choose(x, COIN), 1);
        dueChosen("the least of all", x, 1);
    }

    private static void thereByPlaces() {
        int[] there = {0, 1, 1, 0};
        for (int p = 0; p < 4; p++) {
            NounChoice x = coins(1);
            x.place(0, p);
            due("count(1) at " + p, x.count(1), there[p]);
            due("choose() at " + p, choose(x, COIN), there[p] == 1 ? 1 : -13);
            due("all at " + p, choose(x, ALL), there[p] == 1 ? 1 : -13);
        }
    }

    private static void alikeOnlyWithKind() {
        NounChoice x = things(2);
        due("both -1", x.alike(0, 1), 0);
        x.kind(0, 0);
        due("0 and -1", x.alike(0, 1), 0);
        due("-1 and 0", x.alike(1, 0), 0);
        x.kind(1, 0);
        due("both 0", x.alike(0, 1), 1);
        x.kind(0, 15);
        due("15 and 0", x.alike(0, 1), 0);
        x.kind(1, 15);
        due("both 15", x.alike(0, 1), 1);
    }

    // ---- Terms, part 2

    private static void rowOfThirty() {
        NounChoice x = world();
        int[] thirty = joined(times(14, COINS, AND), tokens(THE, COINS));
        row(x, thirty);
        due("count(3)", x.count(3), 30);
        due("one more", x.type(AND), FULL);
        due("it is a phrase, without the one more", x.choose(), 3);
        due("parts", x.count(4), 15);
        due("fault", x.told(1), -1);
    }

    private static void firstAndLastWord() {
        for (int w : new int[] {0, 29}) {
            NounChoice x = things(1);
            due("word " + w, x.word(0, w, true, true), 0);
            row(x, w);
            due("fits by " + w, x.fits(0), 1);
            due("choose by " + w, x.choose(), 1);
            x.thing();
            x.word(1, w, true, true);
            x.word(1, 29 - w, false, true);
            due("two by " + w, choose(x, w), 0);
            due("reply of " + (29 - w), reply(x, 29 - w), 1);
            dueChosen("reply", x, 1);
        }
        NounChoice x = things(1);
        due("word 30", x.word(0, 30, true, true), BAD);
        row(x, 30);
        due("30 is no word", x.fits(0), NONE);
    }

    private static void firstAndLastNumber() {
        NounChoice x = coins(32);
        for (int n = 1; n <= 20; n++) {
            due("number " + n, choose(x, 40 + n, COIN), n);
            due("chosen by " + n, x.chosen(n - 1), n - 1);
        }
        due("40", x.type(40), BAD);
        due("61", x.type(61), BAD);
    }

    private static void onePartAtLeast() {
        dueFault(0);
        dueFault(0, AND);
        dueFault(0, AND, COIN);
        dueFault(2, COIN, AND);
        dueFault(2, COIN, AND, AND, COIN);
        duePhrase(1, COIN);
        duePhrase(2, COIN, AND, COIN);
        duePhrase(15, joined(times(14, COIN, AND), tokens(COIN)));
    }

    private static void allAlone() {
        duePhrase(1, ALL);
        duePhrase(1, ALL, EXCEPT, COIN);
        duePhrase(2, ALL, AND, ALL);
        duePhrase(2, ALL, EXCEPT, COIN, AND, ALL, EXCEPT, LAMP);
        dueFault(1, ALL, ALL);
        dueFault(2, ALL, EXCEPT);
        dueFault(2, ALL, EXCEPT, AND);
        dueFault(2, ALL, EXCEPT, ALL);
        dueFault(1, ALL, N + 1);
        dueFault(1, THE, ALL);
    }

    private static void allOf() {
        duePhrase(1, ALL, COIN);
        duePhrase(1, ALL, OF, COIN);
        duePhrase(1, ALL, COIN, EXCEPT, COIN);
        duePhrase(1, ALL, OF, COIN, EXCEPT, COIN, EXCEPT, COIN);
        dueFault(2, ALL, OF);
        dueFault(2, ALL, OF, AND);
        dueFault(2, ALL, OF, EXCEPT, COIN);
        dueFault(2, ALL, OF, OF, COIN);
        dueFault(2, ALL, OF, ALL);
        dueFault(2, ALL, OF, N + 1);
        dueFault(2, ALL, THE, OF, COIN);
        dueFault(2, ALL, COIN, OF);
        dueFault(3, ALL, EXCEPT, COIN, OF);
        dueFault(2, ALL, EXCEPT, OF, COIN);
    }

    private static void numberOf() {
        for (int n : new int[] {1, 20}) {
            duePhrase(1, N + n, COIN);
            duePhrase(1, N + n, OF, COIN);
            dueFault(1, N + n);
            dueFault(2, N + n, OF);
            dueFault(1, N + n, AND);
            dueFault(2, N + n, OF, AND);
            dueFault(2, N + n, OF, OF);
            dueFault(1, N + n, N + n);
            dueFault(1, N + n, ALL);
            dueFault(1, N + n, EXCEPT, COIN);
            dueFault(2, N + n, COIN, EXCEPT, COIN);
            dueFault(3, N + n, OF, COIN, EXCEPT, COIN);
            dueFault(2, N + n, COIN, OF);
        }
    }

    private static void descriptionAlone() {
        duePhrase(1, COIN);
        duePhrase(1, THE, COIN);
        dueFault(1, THE);
        dueFault(0, OF, COIN);
        dueFault(0, EXCEPT, COIN);
        dueFault(1, COIN, OF);
        dueFault(1, COIN, EXCEPT, COIN);
        dueFault(1, COIN, N + 1);
        dueFault(1, COIN, ALL);
        dueFault(1, COIN, THE);
        dueFault(4, ALL, COIN, AND, COIN, EXCEPT, COIN);
    }

    private static void oneExceptOrMore() {
        NounChoice x = things(15);
        for (int t = 0; t < 15; t++) {
            x.word(t, t, true, true);
        }
        int[] fourteen = new int[29];
        fourteen[0] = ALL;
        for (int i = 0; i < 14; i++) {
            fourteen[1 + 2 * i] = EXCEPT;
            fourteen[2 + 2 * i] = i;
        }
        due("fourteen", choose(x, fourteen), 1);
        dueChosen("fourteen", x, 14);
        due("one", choose(x, ALL, EXCEPT, 3), 14);
        dueFault(30, joined(fourteen, tokens(EXCEPT)));
        dueFault(3, ALL, COIN, EXCEPT);
        dueFault(3, ALL, COIN, EXCEPT, EXCEPT);
        dueFault(4, ALL, COIN, EXCEPT, THE);
    }

    private static void articlesOnceAtMost() {
        List<int[]> orders = new ArrayList<>();
        addOrders(tokens(), orders);
        due("orders of some of four", orders.size(), 65);
        for (int[] order : orders) {
            NounChoice x = coins(1);
            x.place(0, HELD);
            row(x, joined(order, tokens(COIN)));
            due("fits behind " + Arrays.toString(order), x.fits(0), 1);
            for (int twice : order) {
                dueFault(order.length, joined(order, tokens(twice, COIN)));
                dueFault(order.length + 2, joined(tokens(ALL, EXCEPT), order, tokens(twice, COIN)));
            }
        }
        duePhrase(2, THE, COIN, AND, THE, COIN);
        duePhrase(1, ALL, THE, COIN, EXCEPT, THE, RED, COIN, EXCEPT, THE, BLUE, COIN);
    }

    private static void addOrders(int[] order, List<int[]> orders) {
        orders.add(order);
        for (int article = THE; article <= OTHER; article++) {
            int next = article;
            if (Arrays.stream(order).noneMatch(a -> a == next)) {
                addOrders(joined(order, tokens(article)), orders);
            }
        }
    }

    private static void oneToSixWords() {
        int[][] heads = {{}, {THE}, {THE, A, MY, OTHER}, {ALL}, {ALL, OF}, {N + 1}, {N + 20, OF}, {ALL, EXCEPT}, {ALL, COIN, EXCEPT, MY}, {COIN, AND}};
        for (int[] head : heads) {
            int parts = head.length == 2 && head[1] == AND ? 2 : 1;
            for (int n = 1; n <= 6; n++) {
                duePhrase(parts, joined(head, times(n, COIN)));
            }
            dueFault(head.length + 6, joined(head, times(7, COIN)));
            dueFault(head.length + 6, joined(head, times(8, COIN)));
        }
        dueFault(1, THE);
        dueFault(1, THE, AND);
        NounChoice x = world();
        row(x, times(6, COIN));
        due("six", x.fits(0), 1);
        x.type(COIN);
        due("seven", x.fits(0), NONE);
        row(x, joined(tokens(BLUE), times(5, COIN)));
        due("the first of six is none of its words", x.fits(0), 0);
        row(x, joined(times(5, COIN), tokens(BLUE)));
        due("the last of six is none of its words", x.fits(0), 0);
    }

    private static void replyOfOneToSixWords() {
        for (int n = 1; n <= 6; n++) {
            NounChoice x = world();
            choose(x, COIN);
            due(n + " words", reply(x, times(n, RED)), 1);
            dueChosen(n + " words", x, 0);
        }
        dueReplyFault(6, times(7, RED));
        dueReplyFault(6, times(30, RED));
        dueReplyFault(0);
        for (int token = THE; token <= OF; token++) {
            dueReplyFault(0, token);
            dueReplyFault(1, RED, token);
            dueReplyFault(6, joined(times(6, RED), tokens(token)));
        }
    }

    private static void replyOfOneNumber() {
        NounChoice x = world();
        choose(x, COIN);
        due("one number", reply(x, N + 1), 1);
        choose(x, COIN);
        due("one number, the last", reply(x, N + 20), -18);
        dueReplyFault(1, N + 1, N + 1);
        dueReplyFault(1, N + 1, RED);
        dueReplyFault(1, N + 1, AND);
        dueReplyFault(1, RED, N + 1);
        dueReplyFault(5, joined(times(5, RED), tokens(N + 1)));
    }

    private static void firstFault() {
        dueFault(0, OF, OF);
        dueFault(1, COIN, OF, OF);
        int[] head = joined(times(14, COIN, AND), tokens(COIN));
        dueFault(29, joined(head, tokens(THE)));
        dueFault(29, joined(head, tokens(N + 1)));
        dueFault(29, joined(times(14, COIN, AND), tokens(THE, OF)));
        dueFault(28, joined(times(14, COIN, AND), tokens(EXCEPT, OF)));
        dueReplyFault(0, AND, AND);
        dueReplyFault(2, RED, RED, N + 1, AND);
    }

    private static void moreShouldCome() {
        for (int n = 0; n <= 30; n += 2) {
            dueFault(n, times(n / 2, COIN, AND));
        }
        int[] head = times(14, COIN, AND);
        dueFault(30, joined(head, tokens(ALL, EXCEPT)));
        dueFault(30, joined(head, tokens(ALL, OF)));
        dueFault(30, joined(head, tokens(N + 20, OF)));
        dueFault(30, joined(head, tokens(THE, OTHER)));
        dueFault(30, joined(times(9, COIN, AND), tokens(ALL), times(5, EXCEPT, COIN), tokens(EXCEPT)));
        dueFault(30, joined(times(14, COIN, AND), tokens(N + 1, MY)));
        dueReplyFault(0);
    }

    private static void lastIsNoun() {
        NounChoice x = world();
        row(x, RED);
        due("an adjective alone", x.fits(0), 0);
        row(x, COIN, RED);
        due("an adjective last", x.fits(0), 0);
        row(x, COIN, COIN);
        due("a noun ahead", x.fits(0), 1);
        row(x, RED, COIN);
        due("an adjective ahead", x.fits(0), 1);
        due("an adjective of another ahead", x.fits(1), 0);
        x.word(0, RED, true, true);
        row(x, RED);
        due("both noun and adjective", x.fits(0), 1);
        x.word(0, RED, true, false);
        due("a noun no more", x.fits(0), 0);
    }

    private static void lastIsPlural() {
        NounChoice x = world();
        row(x, COINS);
        due("the plural alone", x.fits(2), 2);
        x.kind(2, -1);
        due("no kind", x.fits(2), 0);
        x.kind(2, 15);
        due("a kind without plural", x.fits(2), 0);
        x.kind(2, 0);
        x.plural(0, -1);
        due("no plural now", x.fits(2), 0);
        x.plural(0, COINS);
        row(x, COINS, COINS);
        due("the plural ahead", x.fits(2), 0);
        row(x, RED, COINS);
        due("an adjective ahead", x.fits(0), 2);
        due("an adjective of another ahead", x.fits(2), 0);
        row(x, COINS, COIN);
        due("the plural ahead of a noun", x.fits(2), 0);
    }

    private static void myIsHeld() {
        NounChoice x = world();
        int[] one = {0, 0, 1, 0};
        for (int p = 0; p < 4; p++) {
            x.place(0, p);
            row(x, MY, COIN);
            due("my, as one, at " + p, x.fits(0), one[p]);
            row(x, MY, COINS);
            due("my, as many, at " + p, x.fits(0), 2 * one[p]);
        }
        due("none held: none fits", choose(x, MY, LAMP), -12);
    }

    private static void otherIsNotLatest() {
        NounChoice x = world();
        choose(x, RED, COIN, AND, BLUE, COIN);
        row(x, OTHER, COIN);
        due("the first of the latest", x.fits(0), 0);
        due("the last of the latest", x.fits(1), 0);
        due("another", x.fits(2), 1);
        row(x, OTHER, COINS);
        due("the latest as many", x.fits(0), 0);
        due("another as many", x.fits(2), 2);
        choose(x, RED, LAMP);
        row(x, OTHER, COIN);
        due("of an earlier choice", x.fits(0), 1);
        choose(x, ALL);
        due("none is another", choose(x, OTHER, COIN), -12);
        NounChoice full = coins(32);
        choose(full, ALL);
        row(full, OTHER, COIN);
        due("the first of all", full.fits(0), 0);
        due("the last of all", full.fits(31), 0);
    }

    private static void noLatestAtFirst() {
        NounChoice x = world();
        row(x, OTHER, COIN);
        for (int t = 0; t < 3; t++) {
            due("fits(" + t + ")", x.fits(t), 1);
        }
        due("asked is not chosen", choose(x, COIN), 0);
        row(x, OTHER, COIN);
        due("fits(0)", x.fits(0), 1);
        due("all others", choose(x, ALL, OTHER, COIN), 3);
    }

    // ---- Terms, part 3

    private static void allOfNoThings() {
        NounChoice x = new NounChoice();
        due("no things", choose(x, ALL), -12);
        dueTold("no things", x, 0, -1, 0);
        due("no things, except", choose(x, ALL, EXCEPT, COIN), -12);
        x.thing();
        due("one without words", choose(x, ALL), 1);
        x.place(0, AWAY);
        due("none there", choose(x, ALL), -13);
        NounChoice full = things(32);
        due("32", choose(full, ALL), 32);
    }

    private static void firstReason() {
        NounChoice x = world();
        due("2 ahead of 4", choose(x, ALL, UNKNOWN, EXCEPT, UNKNOWN), -12);
        due("2 ahead of 6", choose(x, N + 1, UNKNOWN), -12);
        for (int t = 0; t < 3; t++) {
            x.place(t, AWAY);
        }
        due("3 ahead of 4", choose(x, ALL, COIN, EXCEPT, UNKNOWN), -13);
        due("3 ahead of 6", choose(x, N + 1, COIN), -13);
        due("4 ahead of 5", choose(x, ALL, LAMP, EXCEPT, LAMP, EXCEPT, LAMP), -14);
        x.limit(0);
        due("2 ahead of 7", choose(x, LAMPS, AND, UNKNOWN), -12);
        due("6 ahead of 7", choose(x, LAMPS, AND, N + 4, LAMP), -16);
        due("asking ahead of 7", choose(x, LAMPS, AND, LAMP), 0);
    }

    private static void endsAtFirstReason() {
        NounChoice x = world();
        due("2, then 6", choose(x, UNKNOWN, AND, N + 20, COIN), -12);
        due("part", x.told(0), 0);
        due("6, then 2", choose(x, N + 20, COIN, AND, UNKNOWN), -16);
        due("part", x.told(0), 0);
        due("given, then 2, then asking", choose(x, COINS, AND, UNKNOWN, AND, COIN), -12);
        due("part", x.told(0), 1);
        dueAsked("not asked", x);
        dueChosen("not chosen", x);
    }

    private static void reasonTwo() {
        NounChoice x = world();
        due("a word of none", choose(x, UNKNOWN), -12);
        due("an adjective", choose(x, RED), -12);
        due("words of two things", choose(x, BLUE, LAMP), -12);
        due("one that fits", choose(x, BLUE, COIN), 1);
        x.word(1, BLUE, false, false);
        due("it fits no more", choose(x, BLUE, COIN), -12);
        dueTold("it fits no more", x, 0, -1, 0);
    }

    private static void reasonThree() {
        NounChoice x = world();
        x.place(1, AWAY);
        due("away", choose(x, BLUE, COIN), -13);
        dueTold("away", x, 0, -1, 0);
        x.place(1, HIDDEN);
        due("hidden", choose(x, BLUE, COIN), -13);
        x.place(1, HELD);
        due("held", choose(x, BLUE, COIN), 1);
        x.place(1, HERE);
        due("here", choose(x, BLUE, COIN), 1);
    }

    private static void reasonFour() {
        NounChoice x = world();
        due("a word of none", choose(x, ALL, EXCEPT, UNKNOWN), -14);
        dueTold("a word of none", x, 0, -1, 6);
        due("none of C", choose(x, ALL, COIN, EXCEPT, LAMP), -14);
        dueTold("none of C", x, 0, -1, 3);
        x.place(1, AWAY);
        due("one that is not there", choose(x, ALL, EXCEPT, BLUE, COIN), -14);
        dueTold("one that is not there", x, 0, -1, 5);
        due("one is taken", choose(x, ALL, COIN, EXCEPT, RED, COIN), 1);
        dueChosen("one is taken", x, 2);
    }

    private static void exceptsInOrder() {
        NounChoice x = world();
        due("the second takes none that the first took", choose(x, ALL, EXCEPT, COIN, EXCEPT, RED, COIN), -14);
        dueTold("the second", x, 0, -1, 3);
        due("the other way round each takes some", choose(x, ALL, EXCEPT, RED, COIN, EXCEPT, COIN), 3);
        dueChosen("each takes some", x, 3, 4, 5);
        due("the third takes none", choose(x, ALL, EXCEPT, RED, COIN, EXCEPT, COIN, EXCEPT, COIN), -14);
        dueTold("the third", x, 0, -1, 3);
        due("the last of all is taken, then none", choose(x, ALL, COIN, EXCEPT, COINS, EXCEPT, COIN), -14);
        dueTold("then none", x, 0, -1, 0);
    }

    private static void reasonFive() {
        NounChoice x = world();
        due("by one except", choose(x, ALL, COIN, EXCEPT, COIN), -15);
        dueTold("by one except", x, 0, -1, 0);
        due("by two", choose(x, ALL, EXCEPT, COIN, EXCEPT, LAMPS), -15);
        due("all but one", choose(x, ALL, COIN, EXCEPT, RED, COIN, EXCEPT, BLUE, COIN), 1);
        dueChosen("all but one", x, 2);
    }

    private static void reasonSix() {
        for (int n : new int[] {1, 2, 19, 20}) {
            NounChoice x = coins(n);
            due("as many as there are: " + n, choose(x, N + n, COIN), n);
            x.place(n - 1, AWAY);
            due("one fewer than " + n, choose(x, N + n, COIN), n == 1 ? -13 : -16);
            dueTold("one fewer than " + n, x, 0, -1, n - 1);
            due("chosen stays", x.chosen(-1), n);
        }
    }

    private static void lesserNumbers() {
        NounChoice x = coins(32);
        due("20 of 32 with one score", choose(x, N + 20, COIN), 20);
        due("the first", x.chosen(0), 0);
        due("the last", x.chosen(19), 19);
        x.mark(31, 0, 1);
        x.mark(0, 3, -1);
        due("20 again", choose(x, N + 20, COIN), 20);
        due("the first", x.chosen(0), 1);
        due("the last but one", x.chosen(18), 19);
        due("the last", x.chosen(19), 31);
        due("1", choose(x, N + 1, COIN), 1);
        dueChosen("1", x, 31);
        due("2", choose(x, N + 2, COIN), 2);
        dueChosen("2", x, 1, 31);
    }

    private static void oneOfManyThere() {
        NounChoice x = world();
        x.word(3, COINS, true, true);
        due("those as many alone", choose(x, COINS), 3);
        dueChosen("those as many alone", x, 0, 1, 2);
        x.place(0, AWAY);
        x.place(1, HIDDEN);
        due("one is there", choose(x, COINS), 1);
        dueChosen("one is there", x, 2);
        x.place(2, AWAY);
        due("none is there: the one", choose(x, COINS), 1);
        dueChosen("none is there", x, 3);
    }

    private static void noTwoOrLikeTwo() {
        NounChoice x = coins(1);
        due("one of kind -1", choose(x, COIN), 1);
        dueChosen("one of kind -1", x, 0);
        x.thing();
        x.word(1, COIN, true, true);
        due("two of kind -1", choose(x, COIN), 0);
        x.kind(0, 0);
        x.kind(1, 0);
        due("two alike", choose(x, COIN), 1);
        dueChosen("two alike", x, 0);
        x.thing();
        x.word(2, COIN, true, true);
        due("two alike and another", choose(x, COIN), 0);
        x.mark(2, 0, -1);
        due("another with a lesser score", choose(x, COIN), 1);
        NounChoice full = coins(32);
        for (int t = 0; t < 32; t++) {
            full.kind(t, 15);
        }
        due("32 alike", choose(full, COIN), 1);
        dueChosen("32 alike", full, 0);
        full.kind(31, 14);
        due("31 alike and the last not", choose(full, COIN), 0);
        due("two groups", full.asked(-1, 0), 2);
    }

    private static void leastWithA() {
        NounChoice x = world();
        due("a", choose(x, A, COIN), 1);
        dueChosen("a", x, 0);
        due("other a", choose(x, OTHER, A, COIN), 1);
        dueChosen("other a", x, 1);
        due("the a", choose(x, THE, A, COIN), 1);
        dueChosen("the a", x, 0);
        x.mark(1, 0, 1);
        x.mark(2, 1, 1);
        due("a, by score", choose(x, A, COIN), 1);
        dueChosen("a, by score", x, 1);
        due("the", choose(x, THE, COIN), 0);
    }

    private static void endsWhenAsked() {
        NounChoice x = world();
        due("asked ahead of a reason", choose(x, COIN, AND, UNKNOWN), 0);
        dueTold("asked ahead of a reason", x, 0, -1, 3);
        dueChosen("nothing given", x);
        due("the reason comes behind the reply", reply(x, RED), -12);
        dueTold("the reason", x, 1, -1, 0);
        due("asked behind a given one", choose(x, RED, COIN, AND, COIN), 0);
        dueTold("asked behind a given one", x, 1, -1, 3);
        dueChosen("not chosen yet", x);
    }

    private static void groupsByLeast() {
        NounChoice x = coins(6);
        int[] kinds = {2, 1, 2, -1, 1, -1};
        for (int t = 0; t < 6; t++) {
            x.kind(t, kinds[t]);
        }
        due("asked", choose(x, COIN), 0);
        dueAsked("groups", x, group(0, 2), group(1, 4), group(3), group(5));
        x.mark(0, 0, -1);
        choose(x, COIN);
        dueAsked("one of T less", x, group(1, 4), group(2), group(3), group(5));
    }

    private static void eachOnce() {
        NounChoice x = world();
        due("twice the same", choose(x, RED, COIN, AND, RED, COIN), 1);
        dueChosen("twice the same", x, 0);
        due("the last first", choose(x, RED, LAMP, AND, ALL), 6);
        dueChosen("the last first", x, 3, 0, 1, 2, 4, 5);
        due("fifteen times", choose(x, joined(times(14, COINS, AND), tokens(COINS))), 3);
        dueChosen("fifteen times", x, 0, 1, 2);
        NounChoice full = things(32);
        due("all and all", choose(full, ALL, AND, ALL), 32);
        due("the last", full.chosen(31), 31);
        due("behind the last", full.chosen(32), BAD);
    }

    private static void reasonSeven() {
        NounChoice x = things(32);
        due("32 at first", choose(x, ALL), 32);
        x.limit(31);
        due("31", choose(x, ALL), -17);
        x.limit(32);
        due("32", choose(x, ALL), 32);
        NounChoice y = world();
        y.limit(3);
        due("as many", choose(y, COINS), 3);
        due("as many, twice", choose(y, COINS, AND, ALL, COIN), 3);
        due("one more", choose(y, COINS, AND, RED, LAMP), -17);
        y.limit(2);
        due("one more", choose(y, COINS), -17);
        y.limit(1);
        due("one", choose(y, RED, COIN), 1);
        y.limit(0);
        due("0", choose(y, RED, COIN), -17);
        due("0, asked", choose(y, COIN), 0);
        due("0, behind a reply", reply(y, RED), -17);
    }

    private static void nothingPastLimit() {
        NounChoice x = world();
        choose(x, RED, LAMP);
        choose(x, COIN);
        x.limit(2);
        due("past the limit", choose(x, COINS), -17);
        dueChosen("what was chosen stays", x, 3);
        dueAsked("nothing is asked", x);
        dueTold("past the limit", x, -1, -1, -1);
        row(x, OTHER, LAMP);
        due("the latest stay", x.fits(3), 0);
        row(x, OTHER, COIN);
        due("those past the limit are not the latest", x.fits(0), 1);
    }

    private static void setAsItWasAsked() {
        NounChoice x = world();
        choose(x, COIN);
        int more = x.thing();
        x.word(more, COIN, true, true);
        x.word(more, RED, false, true);
        dueAsked("a later thing is none of T", x, group(0), group(1), group(2));
        due("a later thing is not left", reply(x, RED), 1);
        dueChosen("a later thing is not left", x, 0);
        x.mark(0, 0, 1);
        x.mark(1, 0, 1);
        choose(x, COIN);
        dueAsked("those with the greatest", x, group(0), group(1));
        x.mark(2, 0, 9);
        x.place(1, AWAY);
        x.mark(0, 0, -9);
        dueAsked("T stays, whatever scores and places", x, group(0), group(1));
        due("one of lesser score now", reply(x, RED), 1);
        dueChosen("one of lesser score now", x, 0);
    }

    private static void allWordsOfReply() {
        NounChoice x = world();
        choose(x, COIN);
        due("one word of it, one not", reply(x, RED, LAMP), -18);
        due("one not, one of it", reply(x, LAMP, RED), -18);
        due("the sixth not", reply(x, RED, RED, RED, RED, RED, BLUE), -18);
        due("the plural is none of its words", reply(x, COINS), -18);
        due("an adjective last", reply(x, COIN, RED), 1);
        dueChosen("an adjective last", x, 0);
        choose(x, COIN);
        due("all have it", reply(x, COIN), 0);
        dueAsked("all have it", x, group(0), group(1), group(2));
    }

    private static void firstAndLastGroup() {
        NounChoice x = coins(20);
        choose(x, COIN);
        due("groups", x.asked(-1, 0), 20);
        due("the first", reply(x, N + 1), 1);
        dueChosen("the first", x, 0);
        choose(x, COIN);
        due("the twentieth", reply(x, N + 20), 1);
        dueChosen("the twentieth", x, 19);
        x.place(19, AWAY);
        choose(x, COIN);
        due("one behind the last", reply(x, N + 20), -18);
        due("the last", reply(x, N + 19), 1);
        dueChosen("the last", x, 18);
        NounChoice full = coins(32);
        choose(full, COIN);
        due("the greatest number, more groups", reply(full, N + 20), 1);
        dueChosen("the greatest number, more groups", full, 19);
    }

    private static void reasonEight() {
        NounChoice x = world();
        choose(x, RED, COIN, AND, LAMP);
        for (int i = 0; i < 3; i++) {
            due("none left", i == 1 ? reply(x, N + 3) : reply(x, BLUE), -18);
            dueTold("none left", x, 1, -1, -1);
            dueAsked("asked still", x, group(3), group(4, 5));
            dueChosen("nothing chosen", x);
        }
        due("the phrase stays", x.count(4), 2);
        due("one left", reply(x, RED), 2);
        dueChosen("one left", x, 0, 3);
    }

    private static void noneLeftThere() {
        NounChoice x = world();
        choose(x, BLUE, COIN);
        choose(x, COIN);
        x.place(0, HIDDEN);
        due("what is left is not there", reply(x, RED), -13);
        dueTold("what is left is not there", x, 0, -1, 0);
        dueAsked("nothing is asked", x);
        dueChosen("what was chosen stays", x, 1);
        x.place(0, HERE);
        choose(x, COIN);
        x.word(0, COIN, true, false);
        due("what is left fits no more", reply(x, RED), -13);
        dueTold("what is left fits no more", x, 0, -1, 0);
        x.word(0, COIN, true, true);
        choose(x, COIN);
        x.word(1, RED, false, true);
        x.place(1, AWAY);
        due("one of two is there", reply(x, RED), 1);
        dueChosen("one of two is there", x, 0);
    }

    private static void earlierReplies() {
        NounChoice x = world();
        choose(x, COIN, AND, LAMP);
        due("the second part asks", reply(x, BLUE), 0);
        dueTold("the second part asks", x, 1, -1, 3);
        due("the first part keeps its reply", reply(x, RED), 2);
        dueChosen("the first part keeps its reply", x, 1, 3);
        choose(x, COIN, AND, COIN);
        due("the same words in the second", reply(x, BLUE), 0);
        dueTold("they are asked anew", x, 1, -1, 3);
        dueAsked("they are asked anew", x, group(0), group(1), group(2));
        due("a new phrase forgets the replies", choose(x, COIN, AND, COIN), 0);
        dueTold("a new phrase", x, 0, -1, 3);
        reply(x, BLUE);
        due("no phrase forgets none", choose(x, AND), -11);
        due("the first part keeps its reply", reply(x, N + 3), 2);
        dueChosen("the first part keeps its reply", x, 1, 2);
    }

    // ---- promises 1 to 11

    private static void newHasNoThings() {
        NounChoice x = new NounChoice();
        for (int what = 0; what < 3; what++) {
            due("count(" + what + ")", x.count(what), 0);
        }
        due("score(0)", x.score(0), BAD);
        due("word(0, 0)", x.word(0, 0, true, true), BAD);
        due("kind(0, 0)", x.kind(0, 0), BAD);
        due("place(0, 0)", x.place(0, 0), BAD);
        due("mark(0, 0, 0)", x.mark(0, 0, 0), BAD);
        due("alike(0, 0)", x.alike(0, 0), BAD);
        due("fits(0)", x.fits(0), BAD);
        due("thing()", x.thing(), 0);
    }

    private static void newHasNoPlurals() {
        NounChoice x = new NounChoice();
        for (int k = 0; k < 16; k++) {
            due("plural of " + k, x.plural(k, -1), 0);
        }
    }

    private static void newHasEmptyRow() {
        NounChoice x = new NounChoice();
        due("count(3)", x.count(3), 0);
        due("wipe()", x.wipe(), 0);
        due("choose()", x.choose(), -11);
        due("told(1)", x.told(1), 0);
        x.thing();
        due("fits(0)", x.fits(0), NONE);
        due("type(0)", x.type(0), 1);
    }

    private static void newHasNothingChosenOrAsked() {
        NounChoice x = new NounChoice();
        dueChosen("new", x);
        dueAsked("new", x);
        due("reply()", x.reply(), TURN);
        due("asked(0, 0)", x.asked(0, 0), BAD);
    }

    private static void thingFull() {
        NounChoice x = new NounChoice();
        for (int t = 0; t < 32; t++) {
            due("thing()", x.thing(), t);
        }
        for (int i = 0; i < 3; i++) {
            due("thing() beyond", x.thing(), FULL);
            due("count(0)", x.count(0), 32);
            due("count(1)", x.count(1), 32);
        }
        due("score(32)", x.score(32), BAD);
    }

    private static void wordWas() {
        for (int w : new int[] {0, 29}) {
            for (int t : new int[] {0, 31}) {
                NounChoice x = things(32);
                due("noun", x.word(t, w, true, true), 0);
                due("noun again", x.word(t, w, true, true), 1);
                due("adjective", x.word(t, w, false, false), 0);
                due("noun stayed", x.word(t, w, true, false), 1);
                due("noun no more", x.word(t, w, true, false), 0);
                due("adjective", x.word(t, w, false, true), 0);
                due("noun", x.word(t, w, true, false), 0);
                due("adjective stayed", x.word(t, w, false, true), 1);
                due("of another", x.word(31 - t, w, false, false), 0);
                due("another word", x.word(t, 29 - w, false, false), 0);
            }
        }
    }

    private static void wordBad() {
        for (boolean on : new boolean[] {true, false}) {
            for (int thing : new int[] {-1, 6, 31, 32, MIN, MAX}) {
                refused("word of thing " + thing, BAD, x -> x.word(thing, RED, true, on));
                refused("word of thing " + thing, BAD, x -> x.word(thing, RED, false, on));
            }
            for (int w : new int[] {-1, 30, 31, 32, 64, MIN, MAX}) {
                refused("word " + w, BAD, x -> x.word(0, w, true, on));
                refused("word " + w, BAD, x -> x.word(0, w, false, on));
            }
        }
        refused("neither", BAD, x -> x.word(6, 30, true, true));
    }

    private static void kindWas() {
        for (int t : new int[] {0, 31}) {
            NounChoice x = things(32);
            due("none", x.kind(t, 0), 0);
            due("0", x.kind(t, 15), 1);
            due("15", x.kind(t, -1), 16);
            due("-1", x.kind(t, 15), 0);
            due("of another", x.kind(31 - t, -1), 0);
            due("15 again", x.kind(t, 15), 16);
        }
    }

    private static void kindBad() {
        for (int thing : new int[] {-1, 6, 32, MIN, MAX}) {
            refused("kind of thing " + thing, BAD, x -> x.kind(thing, 3));
            refused("no kind of thing " + thing, BAD, x -> x.kind(thing, -1));
        }
        for (int k : new int[] {-2, 16, 17, MIN, MAX}) {
            refused("kind " + k, BAD, x -> x.kind(0, k));
        }
    }

    private static void placeWas() {
        for (int t : new int[] {0, 31}) {
            NounChoice x = things(32);
            due("at first", x.place(t, AWAY), HERE);
            due("0", x.place(t, HIDDEN), AWAY);
            due("3", x.place(t, HELD), HIDDEN);
            due("2", x.place(t, HERE), HELD);
            due("of another", x.place(31 - t, HERE), HERE);
        }
    }

    private static void placeBad() {
        for (int thing : new int[] {-1, 6, 32, MIN, MAX}) {
            refused("place of thing " + thing, BAD, x -> x.place(thing, HELD));
        }
        for (int p : new int[] {-1, 4, MIN, MAX}) {
            refused("place " + p, BAD, x -> x.place(0, p));
        }
    }

    private static void markWas() {
        for (int t : new int[] {0, 31}) {
            for (int rule : new int[] {0, 3}) {
                NounChoice x = things(32);
                due("at first", x.mark(t, rule, -9), 9);
                due("-9", x.mark(t, rule, 9), 0);
                due("9", x.mark(t, rule, 0), 18);
                due("0", x.mark(t, rule, 5), 9);
                due("by another rule", x.mark(t, 3 - rule, 0), 9);
                due("of another", x.mark(31 - t, rule, 0), 9);
                due("of another, by another rule", x.mark(31 - t, 3 - rule, 0), 9);
                due("5", x.mark(t, rule, 5), 14);
            }
        }
    }

    private static void markBad() {
        for (int thing : new int[] {-1, 6, 32, MIN, MAX}) {
            refused("mark of thing " + thing, BAD, x -> x.mark(thing, 0, 3));
        }
        for (int rule : new int[] {-1, 4, 5, MIN, MAX}) {
            refused("mark by rule " + rule, BAD, x -> x.mark(0, rule, 3));
            refused("mark by rule " + rule, BAD, x -> x.mark(5, rule, 3));
        }
        for (int v : new int[] {-10, 10, MIN, MAX}) {
            refused("mark " + v, BAD, x -> x.mark(0, 0, v));
        }
    }

    private static void pluralWas() {
        for (int k : new int[] {0, 15}) {
            NounChoice x = new NounChoice();
            due("at first", x.plural(k, 0), 0);
            due("0", x.plural(k, 29), 1);
            due("29", x.plural(k, -1), 30);
            due("-1", x.plural(k, -1), 0);
            due("none still", x.plural(k, 29), 0);
            due("of another", x.plural(15 - k, -1), 0);
        }
    }

    private static void pluralBad() {
        for (int k : new int[] {-1, 16, MIN, MAX}) {
            refused("plural of kind " + k, BAD, x -> x.plural(k, 3));
            refused("no plural of kind " + k, BAD, x -> x.plural(k, -1));
        }
        for (int w : new int[] {-2, 30, 31, MIN, MAX}) {
            refused("plural " + w, BAD, x -> x.plural(0, w));
        }
    }

    private static void weightWas() {
        for (int rule : new int[] {0, 3}) {
            NounChoice x = new NounChoice();
            due("at first", x.weight(rule, 0), 1);
            due("0", x.weight(rule, 9), 0);
            due("9", x.weight(rule, 9), 9);
            due("of another", x.weight(3 - rule, 1), 1);
        }
    }

    private static void weightBad() {
        for (int rule : new int[] {-1, 4, MIN, MAX}) {
            refused("weight of rule " + rule, BAD, x -> x.weight(rule, 3));
        }
        for (int w : new int[] {-1, 10, MIN, MAX}) {
            refused("weight " + w, BAD, x -> x.weight(0, w));
        }
    }

    private static void limitWas() {
        NounChoice x = new NounChoice();
        due("at first", x.limit(0), 32);
        for (int n = 1; n <= 32; n++) {
            due("limit " + (n - 1), x.limit(n), n - 1);
        }
        due("32", x.limit(32), 32);
    }

    private static void limitBad() {
        for (int n : new int[] {-1, 33, MIN, MAX}) {
            refused("limit " + n, BAD, x -> x.limit(n));
        }
    }

    private static void scoreShifted() {
        NounChoice x = things(32);
        due("at first", x.score(31), 1000);
        x.mark(31, 0, -1);
        due("below", x.score(31), 999);
        x.mark(31, 1, 2);
        due("above", x.score(31), 1001);
        due("of another", x.score(0), 1000);
    }

    private static void scoreBad() {
        for (int thing : new int[] {-1, 6, 32, MIN, MAX}) {
            refused("score of thing " + thing, BAD, x -> x.score(thing));
        }
    }

    private static void alikeItself() {
        NounChoice x = things(32);
        x.kind(31, 0);
        x.kind(0, 0);
        due("the last and itself", x.alike(31, 31), 1);
        due("the first and the last", x.alike(0, 31), 1);
        due("the last and the first", x.alike(31, 0), 1);
        x.mark(31, 3, 1);
        due("another mark by the last rule", x.alike(0, 31), 0);
        due("itself still", x.alike(31, 31), 1);
        x.mark(31, 3, 0);
        x.word(31, 29, true, true);
        due("the last noun", x.alike(0, 31), 0);
        x.word(31, 29, true, false);
        x.word(31, 29, false, true);
        due("the last adjective", x.alike(0, 31), 0);
        x.word(31, 29, false, false);
        x.place(31, HELD);
        due("another place", x.alike(0, 31), 0);
        x.place(31, HERE);
        due("like again", x.alike(0, 31), 1);
    }

    private static void alikeBad() {
        for (int thing : new int[] {-1, 6, 32, MIN, MAX}) {
            refused("alike of " + thing, BAD, x -> x.alike(thing, 0));
            refused("alike with " + thing, BAD, x -> x.alike(0, thing));
            refused("alike of both " + thing, BAD, x -> x.alike(thing, thing));
        }
    }

    private static void alikeNoKind() {
        NounChoice x = things(2);
        due("itself", x.alike(0, 0), 0);
        due("another of kind -1", x.alike(0, 1), 0);
        x.kind(0, 0);
        due("itself with kind 0", x.alike(0, 0), 1);
        x.kind(0, -1);
        due("itself without again", x.alike(0, 0), 0);
    }

    // ---- promises 12 to 14

    private static void typeCounts() {
        for (int token = 0; token <= 60; token++) {
            NounChoice x = new NounChoice();
            boolean known = token <= 37 || token >= 41;
            due("type(" + token + ")", x.type(token), known ? 1 : BAD);
            due("type(0) behind", x.type(0), known ? 2 : 1);
        }
        NounChoice x = new NounChoice();
        for (int n = 1; n <= 30; n++) {
            due("type", x.type(N + 1), n);
            due("count(3)", x.count(3), n);
        }
    }

    private static void typeBad() {
        for (int token : new int[] {-1, 38, 39, 40, 61, 62, MIN, MAX}) {
            refused("type(" + token + ")", BAD, x -> x.type(token));
        }
        NounChoice x = new NounChoice();
        row(x, times(30, COIN));
        for (int token : new int[] {-1, 38, 39, 40, 61}) {
            due("type(" + token + ") behind 30", x.type(token), BAD);
        }
        due("count(3)", x.count(3), 30);
    }

    private static void typeFull() {
        NounChoice x = world();
        row(x, joined(times(14, COINS, AND), tokens(MY, COINS)));
        due("31st", x.type(COIN), FULL);
        due("32nd", x.type(N + 20), FULL);
        due("count(3)", x.count(3), 30);
        due("the thirty stay: my coins, of which none is held", x.choose(), -12);
        due("part", x.told(0), 14);
        due("room again", x.type(COIN), 1);
    }

    private static void wipeHad() {
        NounChoice x = new NounChoice();
        due("new", x.wipe(), 0);
        for (int n : new int[] {1, 29, 30}) {
            row(x, times(n, COIN));
            due("wipe of " + n, x.wipe(), n);
            due("wiped", x.wipe(), 0);
            due("count(3)", x.count(3), 0);
        }
        row(x, times(30, COIN));
        due("31", x.type(COIN), FULL);
        due("30", x.wipe(), 30);
        due("type behind", x.type(COIN), 1);
        NounChoice y = world();
        choose(y, RED, COIN);
        choose(y, COIN, AND, COIN);
        row(y, AND, AND);
        y.wipe();
        dueAsked("wiping leaves what is asked", y, group(0), group(1), group(2));
        dueChosen("wiping leaves what is chosen", y, 0);
        dueTold("wiping leaves what is told", y, 0, -1, 3);
        due("the phrase", y.count(4), 2);
    }

    private static void fitsWays() {
        NounChoice x = things(32);
        x.kind(31, 15);
        row(x, 29);
        due("0", x.fits(31), 0);
        x.word(31, 29, true, true);
        due("1", x.fits(31), 1);
        x.plural(15, 29);
        due("3", x.fits(31), 3);
        x.word(31, 29, true, false);
        due("2", x.fits(31), 2);
        due("0 of another", x.fits(0), 0);
        row(x, OTHER, 29);
        due("2 still", x.fits(31), 2);
        choose(x, 29);
        row(x, OTHER, 29);
        due("0 of the latest", x.fits(31), 0);
    }

    private static void fitsBad() {
        for (int thing : new int[] {-1, 6, 32, MIN, MAX}) {
            refused("fits(" + thing + ")", BAD, x -> x.fits(thing));
        }
        NounChoice x = world();
        due("no thing, an empty row", x.fits(6), BAD);
        row(x, ALL);
        due("no thing, no description", x.fits(-1), BAD);
    }

    private static void fitsNone() {
        int[][] rows = {
            {}, {THE}, {THE, A, MY, OTHER}, {THE, THE, COIN}, {COIN, THE}, {ALL}, {ALL, COIN}, {ALL, OF, COIN}, {ALL, EXCEPT, COIN},
            {N + 1}, {N + 1, COIN}, {N + 20, OF, COIN}, {COIN, N + 1}, {COIN, AND}, {COIN, AND, COIN}, {AND}, {OF}, {EXCEPT},
            times(7, COIN), times(30, COIN), times(30, THE), times(30, N + 1), joined(tokens(THE), times(7, COIN)),
        };
        for (int[] tokens : rows) {
            NounChoice x = world();
            row(x, tokens);
            due(Arrays.toString(tokens), x.fits(0), NONE);
            due("it stays", x.count(3), tokens.length);
        }
        NounChoice x = world();
        row(x, joined(tokens(OTHER, MY, A, THE), times(6, COIN)));
        due("ten tokens are one", x.fits(0), 0);
    }

    private static void fitsLeavesRow() {
        refused("fits(1)", 0, x -> x.fits(1));
        NounChoice x = world();
        row(x, RED, COIN);
        due("fits", x.fits(0), 1);
        due("fits again", x.fits(0), 1);
        due("count(3)", x.count(3), 2);
        due("choose", x.choose(), 1);
        dueChosen("choose", x, 0);
        choose(x, COIN, AND, LAMP);
        row(x, RED);
        x.fits(0);
        due("the phrase stays", x.count(4), 2);
        due("a reply to it", x.reply(), 0);
        dueTold("a reply to it", x, 1, -1, 3);
    }

    // ---- promises 15 and 16

    private static void chooseEmptiesRow() {
        int[][] rows = {{}, {AND}, {COIN}, {RED, COIN}, {UNKNOWN}, {ALL}, times(30, COIN), joined(times(14, COINS, AND), tokens(THE, COINS))};
        for (int[] tokens : rows) {
            NounChoice x = world();
            row(x, tokens);
            x.choose();
            due("count(3) behind " + Arrays.toString(tokens), x.count(3), 0);
            due("type(0)", x.type(0), 1);
        }
        NounChoice x = world();
        x.limit(0);
        choose(x, ALL);
        due("past the limit", x.count(3), 0);
    }

    private static void chooseAsks() {
        NounChoice x = coins(2);
        due("two", choose(x, COIN), 0);
        dueAsked("two", x, group(0), group(1));
        NounChoice full = coins(32);
        due("32", choose(full, COIN), 0);
        due("groups", full.asked(-1, 0), 32);
        due("the last", full.asked(31, 0), 31);
        dueTold("32", full, 0, -1, 32);
    }

    private static void chooseNoPhrase() {
        NounChoice x = world();
        choose(x, RED, LAMP);
        choose(x, RED, COIN, AND, COIN);
        for (int[] tokens : new int[][] {{}, {AND}, {COIN, AND}, times(7, COIN), times(30, COIN), {N + 1}}) {
            due(Arrays.toString(tokens), choose(x, tokens), -11);
            due("the phrase stays", x.count(4), 2);
            dueChosen("chosen stays", x, 3);
            dueAsked("asked stays", x, group(0), group(1), group(2));
        }
        due("the phrase is gone through anew", reply(x, BLUE), 2);
        dueChosen("anew", x, 0, 1);
        due("the phrase stays", choose(x, AND), -11);
        dueAsked("not asked stays", x);
        due("not asked", x.reply(), TURN);
    }

    private static void chooseReasons() {
        int[][] rows = {{UNKNOWN}, {BLUE, COIN}, {ALL, EXCEPT, UNKNOWN}, {ALL, EXCEPT, COIN, EXCEPT, LAMP}, {N + 3, COIN}, {LAMPS}};
        for (int i = 0; i < rows.length; i++) {
            NounChoice x = world();
            x.place(1, AWAY);
            x.limit(2);
            choose(x, RED, COIN, AND, RED, LAMP);
            due("asked", choose(x, LAMP), 0);
            due("reason " + (i + 2), choose(x, rows[i]), -10 - (i + 2));
            dueAsked("nothing is asked", x);
            due("nothing is asked", x.reply(), TURN);
            dueChosen("what was chosen stays", x, 0, 3);
            due("the phrase is this one", x.count(4), 1);
        }
    }

    private static void replyEmptiesRow() {
        int[][] rows = {{}, {AND}, {COIN}, {RED}, {RED, BLUE}, {N + 1}, {N + 20}, times(30, COIN)};
        for (int[] tokens : rows) {
            NounChoice x = world();
            choose(x, COIN);
            row(x, tokens);
            x.reply();
            due("count(3) behind " + Arrays.toString(tokens), x.count(3), 0);
            due("type(0)", x.type(0), 1);
        }
    }

    private static void replyNone() {
        NounChoice x = world();
        choose(x, RED, LAMP);
        choose(x, RED, COIN, AND, COIN);
        for (int[] tokens : new int[][] {{}, {THE}, {ALL}, {RED, AND}, {N + 1, N + 1}, {N + 1, RED}, times(7, RED), times(30, RED)}) {
            due(Arrays.toString(tokens), reply(x, tokens), -11);
            due("the phrase stays", x.count(4), 2);
            dueChosen("chosen stays", x, 3);
            dueAsked("asked stays", x, group(0), group(1), group(2));
        }
        due("a reply then", reply(x, N + 3), 2);
        dueChosen("a reply then", x, 0, 2);
    }

    private static void replyLeavesNone() {
        NounChoice x = world();
        choose(x, RED, LAMP);
        choose(x, COIN);
        for (int[] tokens : new int[][] {{UNKNOWN}, {RED, BLUE}, {N + 4}, {N + 20}, {LAMP}}) {
            due(Arrays.toString(tokens), reply(x, tokens), -18);
            dueAsked("asked still", x, group(0), group(1), group(2));
            dueChosen("chosen stays", x, 3);
            due("the phrase stays", x.count(4), 1);
        }
        due("one left", reply(x, RED), 1);
    }

    private static void replyReasons() {
        for (int reason = 2; reason <= 7; reason++) {
            NounChoice x = world();
            choose(x, RED, LAMP);
            int[] more = reason == 4 ? tokens(ALL, EXCEPT, BLUE, COIN) : reason == 5 ? tokens(ALL, BLUE, COIN, EXCEPT, RED, COIN)
                : reason == 6 ? tokens(N + 3, COIN) : tokens(BLUE, COIN);
            due("asked", choose(x, joined(tokens(COIN, AND), more)), 0);
            if (reason == 2) {
                x.word(1, BLUE, false, false);
            } else if (reason == 5) {
                x.word(1, RED, false, true);
            } else if (reason == 7) {
                x.limit(1);
            } else {
                x.place(1, AWAY);
            }
            due("reason " + reason, reply(x, N + 1), -10 - reason);
            dueAsked("nothing is asked", x);
            dueChosen("what was chosen stays", x, 3);
            due("part", x.told(0), reason == 7 ? -1 : 1);
            due("turn", x.reply(), TURN);
        }
    }

    private static void replyTurn() {
        NounChoice x = world();
        due("new, an empty row", x.reply(), TURN);
        row(x, times(30, RED));
        due("new, a full row", x.reply(), TURN);
        due("it stays", x.count(3), 30);
        row(x, RED, COIN);
        due("a row", x.reply(), TURN);
        due("it stays", x.count(3), 2);
        due("it stays: a phrase", x.choose(), 1);
        dueChosen("it stays", x, 0);
        x.type(RED);
        due("behind a choice", x.reply(), TURN);
        dueChosen("turn leaves what is chosen", x, 0);
        due("turn leaves the phrase", x.count(4), 1);
        choose(x, COIN);
        reply(x, RED);
        due("behind a reply that chose", reply(x, RED), TURN);
        choose(x, UNKNOWN);
        due("behind a reason", reply(x, RED), TURN);
        choose(x, AND);
        due("behind no phrase", reply(x, RED), TURN);
    }

    // ---- promises 17 to 20

    private static void chosenFromFirstToLast() {
        NounChoice x = things(32);
        due("none", x.chosen(-1), 0);
        choose(x, ALL);
        due("how many", x.chosen(-1), 32);
        for (int i = 0; i < 32; i++) {
            due("chosen(" + i + ")", x.chosen(i), i);
        }
        due("chosen(32)", x.chosen(32), BAD);
        x.word(31, COIN, true, true);
        choose(x, COIN);
        due("latest", x.chosen(-1), 1);
        due("latest", x.chosen(0), 31);
        due("the earlier ones are gone", x.chosen(1), BAD);
    }

    private static void chosenBad() {
        for (int i : new int[] {-2, 3, 32, MIN, MAX}) {
            refused("chosen(" + i + ")", BAD, x -> x.chosen(i));
        }
        due("none chosen", new NounChoice().chosen(0), BAD);
    }

    private static void askedFromFirstToLast() {
        NounChoice x = coins(32);
        for (int t = 0; t < 31; t++) {
            x.kind(t, 0);
        }
        choose(x, COIN);
        due("the first group", x.asked(0, -1), 31);
        due("the last group", x.asked(1, -1), 1);
        for (int i = 0; i < 31; i++) {
            due("asked(0, " + i + ")", x.asked(0, i), i);
        }
        due("asked(0, 31)", x.asked(0, 31), BAD);
        due("asked(1, 0)", x.asked(1, 0), 31);
        due("asked(1, 1)", x.asked(1, 1), BAD);
    }

    private static void askedGroups() {
        NounChoice x = coins(32);
        choose(x, COIN);
        for (int i : new int[] {-1, 0, 1, 31, 32, -2, MIN, MAX}) {
            due("asked(-1, " + i + ")", x.asked(-1, i), 32);
            due("asked(-1, " + i + ") of none", new NounChoice().asked(-1, i), 0);
        }
        x.kind(0, 3);
        x.kind(31, 3);
        due("two alike", x.asked(-1, 0), 31);
    }

    private static void askedBad() {
        for (int g : new int[] {-2, 3, 32, MIN, MAX}) {
            refused("asked(" + g + ", -1)", BAD, x -> x.asked(g, -1));
            refused("asked(" + g + ", 0)", BAD, x -> x.asked(g, 0));
        }
        for (int i : new int[] {-2, 1, 32, MIN, MAX}) {
            refused("asked(0, " + i + ")", BAD, x -> x.asked(0, i));
            refused("asked(2, " + i + ")", BAD, x -> x.asked(2, i));
        }
    }

    private static void askedNothing() {
        NounChoice x = world();
        dueAsked("new", x);
        choose(x, COIN);
        due("asked", x.asked(-1, 0), 3);
        reply(x, RED);
        dueAsked("behind a reply", x);
        choose(x, COIN);
        choose(x, RED, COIN);
        dueAsked("behind a choice", x);
        choose(x, COIN);
        choose(x, UNKNOWN);
        dueAsked("behind a reason", x);
        choose(x, COIN);
        x.limit(0);
        choose(x, RED, COIN);
        dueAsked("past the limit", x);
        due("asked(0, 0)", x.asked(0, 0), BAD);
    }

    private static void askedAlikeNow() {
        NounChoice x = coins(4);
        choose(x, COIN);
        dueAsked("none alike", x, group(0), group(1), group(2), group(3));
        for (int t = 0; t < 4; t++) {
            x.kind(t, 7);
        }
        dueAsked("all alike now", x, group(0, 1, 2, 3));
        due("the second is none now", reply(x, N + 2), -18);
        x.mark(0, 0, -1);
        x.mark(2, 0, -1);
        dueAsked("two groups now", x, group(0, 2), group(1, 3));
        due("the second now", reply(x, N + 2), 1);
        dueChosen("the second now", x, 1);
        choose(x, COIN);
        dueChosen("like ones of T are not asked", x, 1);
    }

    private static void toldSkipsTurn() {
        NounChoice x = world();
        choose(x, RED, COIN, AND, N + 20, COIN);
        dueTold("6", x, 1, -1, 3);
        due("turn", reply(x, AND), TURN);
        dueTold("turn tells nothing new", x, 1, -1, 3);
        choose(x, AND);
        due("turn", reply(x, RED), TURN);
        dueTold("turn tells nothing new", x, -1, 0, -1);
        choose(x, COIN);
        reply(x, AND);
        dueTold("a reply that is none tells", x, -1, 0, -1);
        reply(x, UNKNOWN);
        dueTold("8 tells", x, 0, -1, -1);
    }

    private static void toldFirstAndLastPart() {
        NounChoice x = world();
        int[] head = times(14, COINS, AND);
        choose(x, joined(head, tokens(UNKNOWN)));
        dueTold("the last of fifteen", x, 14, -1, 0);
        choose(x, joined(head, tokens(COIN)));
        dueTold("the last of fifteen is asked", x, 14, -1, 3);
        due("a reply for the last", reply(x, RED), 3);
        dueTold("a reply for the last", x, -1, -1, -1);
        choose(x, UNKNOWN, AND, COINS);
        dueTold("the first", x, 0, -1, 0);
    }

    private static void toldNoPart() {
        NounChoice x = world();
        choose(x, UNKNOWN);
        due("ended at a part", x.told(0), 0);
        choose(x, RED, COIN, AND, BLUE, COIN);
        due("all was gone through", x.told(0), -1);
        choose(x, UNKNOWN);
        x.limit(0);
        choose(x, RED, COIN);
        due("all was gone through, past the limit", x.told(0), -1);
        choose(x, UNKNOWN);
        choose(x, AND);
        due("the row was no phrase", x.told(0), -1);
        choose(x, COIN);
        reply(x, AND);
        due("the row was no reply", x.told(0), -1);
    }

    private static void toldFault() {
        NounChoice x = world();
        choose(x, AND);
        due("the first token", x.told(1), 0);
        choose(x, RED, COIN);
        due("none", x.told(1), -1);
        choose(x, times(15, COIN, AND));
        due("30", x.told(1), 30);
        choose(x, UNKNOWN);
        due("none with a reason", x.told(1), -1);
        choose(x, AND);
        choose(x, COIN);
        due("none when asked", x.told(1), -1);
        reply(x, times(7, RED));
        due("of a reply", x.told(1), 6);
        reply(x, UNKNOWN);
        due("none with 8", x.told(1), -1);
    }

    private static void toldInTheEnd() {
        NounChoice x = world();
        choose(x, N + 4, COIN);
        due("6", x.told(2), 3);
        choose(x, ALL, EXCEPT, COIN, EXCEPT, COIN);
        due("4, behind one that took", x.told(2), 3);
        x.mark(0, 0, -1);
        choose(x, COIN);
        due("asked: C, not T", x.told(2), 3);
        dueAsked("T", x, group(1), group(2));
        reply(x, COIN);
        due("asked again: C, not what is left", x.told(2), 3);
        x.place(2, AWAY);
        due("as it was then", x.told(2), 3);
        choose(x, N + 3, COIN);
        due("those there", x.told(2), 2);
        NounChoice full = coins(32);
        choose(full, COIN);
        due("32", full.told(2), 32);
    }

    private static void toldNoneInTheEnd() {
        NounChoice x = world();
        choose(x, UNKNOWN);
        due("2", x.told(2), 0);
        x.place(1, AWAY);
        choose(x, COIN);
        choose(x, BLUE, COIN);
        due("3", x.told(2), 0);
        choose(x, ALL, COIN, EXCEPT, COIN);
        due("5", x.told(2), 0);
        choose(x, COIN);
        x.place(0, AWAY);
        due("3 by a reply, though C has one", reply(x, RED), -13);
        due("3 by a reply", x.told(2), 0);
        choose(x, COINS, AND, UNKNOWN);
        due("2 behind a part that gave some", x.told(2), 0);
    }

    private static void toldNoCount() {
        NounChoice x = world();
        choose(x, COIN);
        due("asked", x.told(2), 3);
        reply(x, UNKNOWN);
        due("with 8", x.told(2), -1);
        due("with 8 there is a part", x.told(0), 0);
        choose(x, COIN);
        choose(x, RED, COIN);
        due("all was gone through", x.told(2), -1);
        choose(x, COIN);
        choose(x, AND);
        due("no phrase", x.told(2), -1);
        reply(x, AND);
        due("no reply", x.told(2), -1);
        x.limit(2);
        choose(x, COIN);
        choose(x, COINS);
        due("past the limit", x.told(2), -1);
    }

    private static void toldBad() {
        for (int what : new int[] {-1, 3, 4, MIN, MAX}) {
            refused("told(" + what + ")", BAD, x -> x.told(what));
        }
    }

    private static void toldBefore() {
        NounChoice x = world();
        dueTold("before", x, -1, -1, -1);
        row(x, AND);
        x.fits(0);
        x.reply();
        dueTold("behind calls that are no choose()", x, -1, -1, -1);
        x.choose();
        dueTold("then", x, -1, 0, -1);
    }

    private static void countThings() {
        NounChoice x = things(32);
        due("things", x.count(0), 32);
        due("there", x.count(1), 32);
        due("held", x.count(2), 0);
        for (int t = 0; t < 32; t++) {
            x.place(t, HELD);
        }
        due("there, all held", x.count(1), 32);
        due("held, all", x.count(2), 32);
        for (int t = 0; t < 32; t++) {
            x.place(t, t % 2 == 0 ? AWAY : HIDDEN);
        }
        due("things, none there", x.count(0), 32);
        due("there, none", x.count(1), 0);
        due("held, none", x.count(2), 0);
        x.place(31, HERE);
        due("there, the last", x.count(1), 1);
        due("held, none", x.count(2), 0);
    }

    private static void countTokens() {
        NounChoice x = new NounChoice();
        due("none", x.count(3), 0);
        for (int n = 1; n <= 30; n++) {
            x.type(COIN);
            due("tokens", x.count(3), n);
        }
        x.type(COIN);
        due("full", x.count(3), 30);
        x.wipe();
        due("wiped", x.count(3), 0);
        x.type(38);
        due("no token", x.count(3), 0);
    }

    private static void countParts() {
        NounChoice x = world();
        due("before", x.count(4), 0);
        choose(x, COIN, AND);
        due("no phrase yet", x.count(4), 0);
        choose(x, RED, COIN);
        due("one", x.count(4), 1);
        choose(x, joined(times(14, UNKNOWN, AND), tokens(UNKNOWN)));
        due("fifteen, though it ended at the first", x.count(4), 15);
        choose(x, times(15, COIN, AND));
        due("no phrase: it stays", x.count(4), 15);
        choose(x, COIN, AND, COIN);
        due("asked", x.count(4), 2);
        reply(x, RED);
        due("behind a reply", x.count(4), 2);
    }

    private static void countLimit() {
        NounChoice x = new NounChoice();
        due("at first", x.count(5), 32);
        x.limit(0);
        due("0", x.count(5), 0);
        x.limit(33);
        due("refused", x.count(5), 0);
        x.limit(32);
        due("32", x.count(5), 32);
    }

    private static void countBad() {
        for (int what : new int[] {-1, 6, 7, MIN, MAX}) {
            refused("count(" + what + ")", BAD, x -> x.count(what));
        }
    }

    private static void allCallsOfAnObject() {
        NounChoice x = coins(2);
        int calls = 4;
        while (calls + 6 <= 512) {
            due("type", x.type(COIN), 1);
            due("choose", x.choose(), 0);
            due("type", x.type(N + 2), 1);
            due("reply", x.reply(), 1);
            due("chosen", x.chosen(0), 1);
            due("count", x.count(0), 2);
            calls += 6;
        }
        while (calls < 512) {
            due("the last calls", x.chosen(-1), 1);
            calls++;
        }
    }
}
