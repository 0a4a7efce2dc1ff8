import java.util.ArrayList;
import java.util.List;
import java.util.Random;
import java.util.regex.Matcher;
import java.util.regex.Pattern;

/**
 * Promises 14, 15, 16, 19: which ROWS are a DESCRIPTION, a PHRASE or a REPLY, and their FAULT, against regular
 * expressions. A matcher that hits the end of a text without a match says that more should come.
 */
public final class NounChoiceGrammar {
    /** A letter for each sort of TOKEN: w WORD, t THE, a A, m MY, o OTHER, L ALL, X EXCEPT, N AND, F OF, n number. */
    private static final String LETTERS = "wtamoLXNFn";
    private static final int[] TOKENS = {3, 30, 31, 32, 33, 34, 35, 36, 37, 41};

    private static final String DESCRIPTION = "(?:" + articles() + ")w{1,6}";
    private static final String EXCEPTS = "(?:X" + DESCRIPTION + ")";
    private static final String PART =
        "(?:L" + EXCEPTS + "*|LF?" + DESCRIPTION + EXCEPTS + "*|nF?" + DESCRIPTION + "|" + DESCRIPTION + ")";
    private static final Pattern PHRASE = Pattern.compile(PART + "(?:N" + PART + ")*");
    private static final Pattern REPLY = Pattern.compile("w{1,6}|n");
    private static final Pattern ALONE = Pattern.compile(DESCRIPTION);

    private static int wrong = 0;

    public static void main(String[] args) {
        NounChoice x = askedOne();
        int calls = 0;
        for (String text : texts()) {
            if (calls > 400) {
                x = askedOne();
                calls = 0;
            }
            calls += 3 * text.length() + 8;
            checkDescription(x, text);
            checkReply(x, text);
            checkPhrase(text);
        }
        System.out.println(wrong == 0 ? "all rows are as due" : wrong + " rows are not as due");
        if (wrong != 0) {
            System.exit(1);
        }
    }

    /** Every order of every choice of the four articles. */
    private static String articles() {
        List<String> orders = new ArrayList<>();
        orders.add("");
        for (int i = 0; i < orders.size(); i++) {
            for (char c : "tamo".toCharArray()) {
                if (orders.get(i).indexOf(c) < 0) {
                    orders.add(orders.get(i) + c);
                }
            }
        }
        return String.join("|", orders);
    }

    private static List<String> texts() {
        List<String> texts = new ArrayList<>();
        texts.add("");
        for (int i = 0; i < texts.size() && texts.get(i).length() < 4; i++) {
            for (char c : LETTERS.toCharArray()) {
                texts.add(texts.get(i) + c);
            }
        }
        Random random = new Random(29);
        for (int i = 0; i < 20000; i++) {
            texts.add(longText(random));
        }
        return texts;
    }

    /** Grown by letters with which a PHRASE goes on, for the most part, so that long ones come up. */
    private static String longText(Random random) {
        int length = 1 + random.nextInt(30);
        int stray = random.nextInt(60);
        StringBuilder text = new StringBuilder();
        for (int tries = 0; text.length() < length && tries < 1000; tries++) {
            boolean word = random.nextInt(3) == 0;
            text.append(word ? 'w' : LETTERS.charAt(random.nextInt(LETTERS.length())));
            if (fault(PHRASE, text.toString()) == text.length() - 1 && text.length() - 1 != stray) {
                text.setLength(text.length() - 1);
            }
        }
        return text.toString();
    }

    private static boolean goesOn(Pattern pattern, String text) {
        Matcher matcher = pattern.matcher(text);
        return matcher.matches() || matcher.hitEnd();
    }

    private static int fault(Pattern pattern, String text) {
        if (pattern.matcher(text).matches()) {
            return -1;
        }
        for (int i = 0; i < text.length(); i++) {
            if (!goesOn(pattern, text.substring(0, i + 1))) {
                return i;
            }
        }
        return text.length();
    }

    private static void row(NounChoice x, String text) {
        x.wipe();
        for (char c : text.toCharArray()) {
            x.type(TOKENS[LETTERS.indexOf(c)]);
        }
    }

    /** Asked which of two THINGS with the same WORD, so that a REPLY of WORDS leaves it asked. */
    private static NounChoice askedOne() {
        NounChoice x = new NounChoice();
        for (int t = 0; t < 2; t++) {
            x.thing();
            x.word(t, 3, true, true);
        }
        x.type(3);
        x.choose();
        return x;
    }

    private static void due(String what, String text, int got, int want) {
        if (got != want) {
            wrong++;
            System.out.println(what + " of " + text + " answered " + got + ", due is " + want);
        }
    }

    private static void checkDescription(NounChoice x, String text) {
        row(x, text);
        boolean described = ALONE.matcher(text).matches();
        due("fits(0)", text, x.fits(0), !described ? NounChoice.NONE : text.indexOf('m') >= 0 ? 0 : 1);
    }

    private static void checkReply(NounChoice x, String text) {
        int fault = fault(REPLY, text);
        // A number would end the asking.
        if (fault != -1 || text.charAt(0) == 'w') {
            row(x, text);
            due("reply()", text, x.reply(), fault == -1 ? 0 : -11);
            due("told(1) behind reply()", text, x.told(1), fault);
        }
    }

    private static void checkPhrase(String text) {
        NounChoice x = new NounChoice();
        row(x, text);
        int fault = fault(PHRASE, text);
        due("choose()", text, x.choose(), fault == -1 ? -12 : -11);
        due("told(1)", text, x.told(1), fault);
        due("told(0)", text, x.told(0), fault == -1 ? 0 : -1);
        due("count(4)", text, x.count(4), fault == -1 ? text.split("N", -1).length : 0);
    }
}
