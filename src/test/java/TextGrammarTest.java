import java.util.ArrayList;
import java.util.List;
import java.util.Random;
import java.util.regex.Matcher;
import java.util.regex.Pattern;

/**
 * Promise 32 once more: many rows of tokens, held against a second telling of the grammar (a
 * pattern over tokens, each with one blank behind it) and against the calls that tell the same.
 */
public final class TextGrammarTest {
    static final String[] KINDS = {"disputant", "aunt", "lawyer", "parson", "bishop", "child", "twin"};
    private static final String ITEM = "(?:(?:" + String.join("|", KINDS) + ") "
        + "(?:cause 0*[0-9]{1,2} )?(?:temper 0*[0-9]{1,2} )?(?:silent )?"
        + "|dispute 0*[0-5] 0*[0-7] 0*[0-7] |height 0*(?:[1-9]|[1-5][0-9]|60) |spread 0*[0-9] )";
    static final Pattern TEXT = Pattern.compile(ITEM + "(?:; " + ITEM + ")*");

    private static final String[] FEW = {
        "aunt", "bishop", "cause", "temper", "silent", "dispute", "height", "spread", ";", "0", "5", "7", "60", "99",
        "x",
    };
    private static final String[] MANY = {
        "disputant", "aunt", "lawyer", "parson", "bishop", "child", "twin", "cause", "temper", "silent", "dispute",
        "height", "spread", ";", ";", ";", "0", "1", "5", "6", "7", "8", "9", "10", "60", "61", "99", "100", "999",
        "1000", "007", "disput", "heights", "#", "A",
    };

    public static void main(String[] args) {
        for (int length = 0; length <= 4; length++) {
            allRows(new String[length], 0);
        }
        anyRows(new Random(7));
        likelyRows(new Random(32));
        Due.end("TextGrammarTest");
    }

    private static void allRows(String[] row, int from) {
        if (from == row.length) {
            hold(List.of(row), " ");
            return;
        }
        for (String token : FEW) {
            row[from] = token;
            allRows(row, from + 1);
        }
    }

    private static void anyRows(Random random) {
        for (int k = 0; k < 20000; k++) {
            List<String> row = new ArrayList<>();
            for (int n = random.nextInt(9); n > 0; n--) {
                row.add(MANY[random.nextInt(MANY.length)]);
            }
            hold(row, random.nextBoolean() ? " " : "  ");
        }
    }

    /** Texts without a fault, in half of which one token is then another, left out or put in. */
    private static void likelyRows(Random random) {
        for (int k = 0; k < 20000; k++) {
            List<String> row = new ArrayList<>();
            for (int n = random.nextInt(11); n >= 0; n--) {
                addItem(row, random);
                if (n > 0) {
                    row.add(";");
                }
            }
            int at = random.nextInt(row.size());
            String token = MANY[random.nextInt(MANY.length)];
            switch (random.nextInt(6)) {
                case 0:
                    row.set(at, token);
                    break;
                case 1:
                    row.remove(at);
                    break;
                case 2:
                    row.add(at, token);
                    break;
                default:
                    break;
            }
            hold(row, " ");
        }
    }

    private static void addItem(List<String> row, Random random) {
        switch (random.nextInt(6)) {
            case 0:
                row.add("height");
                row.add("" + (1 + random.nextInt(60)));
                break;
            case 1:
                row.add("spread");
                row.add("" + random.nextInt(10));
                break;
            case 2:
                row.add("dispute");
                row.add("" + random.nextInt(6));
                row.add("" + random.nextInt(8));
                row.add("" + random.nextInt(8));
                break;
            default:
                row.add(KINDS[random.nextInt(7)]);
                addMaybe(row, random, "cause");
                addMaybe(row, random, "temper");
                if (random.nextInt(3) == 0) {
                    row.add("silent");
                }
                break;
        }
    }

    private static void addMaybe(List<String> row, Random random, String word) {
        if (random.nextInt(3) == 0) {
            row.add(word);
            row.add("" + random.nextInt(100));
        }
    }

    private static void hold(List<String> tokens, String between) {
        String text = String.join(between, tokens);
        if (text.length() > 120) {
            return;
        }
        int want = due(tokens, between.length(), text.length());
        ToastCourt x = new ToastCourt();
        ToastCourt told = new ToastCourt();
        if (want > 0) {
            tell(told, tokens);
        }
        Due.feed(x, text);
        Due.due("32: text \"" + text + "\"", x.text(), want);
        Due.due("32: all is as told behind \"" + text + "\"", Due.picture(x).equals(Due.picture(told)) ? 1 : 0, 1);
        Due.due("32: no finding with \"" + text + "\"", x.status(-1), 0);
    }

    /** How many items, or -1 less the fault. */
    private static int due(List<String> tokens, int blanks, int size) {
        StringBuilder soFar = new StringBuilder();
        int place = 0;
        int items = 1;
        int disputants = 0;
        for (String token : tokens) {
            soFar.append(token).append(' ');
            Matcher matcher = TEXT.matcher(soFar);
            boolean canStand = matcher.matches() || matcher.hitEnd();
            disputants += List.of(KINDS).contains(token) ? 1 : 0;
            if (!canStand || disputants > 8) {
                return -1 - place;
            }
            items += token.equals(";") ? 1 : 0;
            place += token.length() + blanks;
        }
        return TEXT.matcher(soFar).matches() ? items : -1 - size;
    }

    private static void tell(ToastCourt x, List<String> tokens) {
        for (int k = 0; k < tokens.size(); k++) {
            int newest = x.count(1) - 1;
            switch (tokens.get(k)) {
                case "height":
                    x.set(0, number(tokens, k + 1));
                    break;
                case "spread":
                    x.set(1, number(tokens, k + 1));
                    break;
                case "dispute":
                    x.dispute(number(tokens, k + 1), number(tokens, k + 2), number(tokens, k + 3));
                    break;
                case "cause":
                    x.change(newest, 1, number(tokens, k + 1));
                    break;
                case "temper":
                    x.change(newest, 2, number(tokens, k + 1));
                    break;
                case "silent":
                    x.change(newest, 5, 1);
                    break;
                default:
                    int kind = List.of(KINDS).indexOf(tokens.get(k));
                    if (kind >= 0) {
                        x.disputant(kind, 50);
                    }
                    break;
            }
        }
    }

    private static int number(List<String> tokens, int k) {
        return Integer.parseInt(tokens.get(k));
    }
}
