import java.util.regex.Matcher;
import java.util.regex.Pattern;

/** Fault positions: each character behind each beginning of a text, against patterns of the texts. */
public final class FaultsTest {
    private static final Checks CHECKS = new Checks("FaultsTest");
    private static final Pattern FAMILY = Pattern.compile("[0-9]{1,2} [0-9]{1,3}( [0-9]x[0-9]){1,3}");
    private static final String COMMAND = "(m[0-9]|r[0-9]x[0-9]{1,3}|w[0-9]{1,3}|l[0-9][0-9]g[0-9]{1,5})";
    private static final Pattern PROGRAM = Pattern.compile(COMMAND + "(;" + COMMAND + ")*");
    private static final int CHARACTERS = 300;

    private final Pattern pattern;
    private final int longest;
    private int texts;
    private int wrong;

    private FaultsTest(Pattern pattern, int longest) {
        this.pattern = pattern;
        this.longest = longest;
    }

    public static void main(String[] args) {
        FaultsTest families = new FaultsTest(FAMILY, 80);
        families.tryAll("");
        FaultsTest programs = new FaultsTest(PROGRAM, 20);
        programs.tryAll("");
        CHECKS.due("many families were tried", true, () -> families.texts > 20000);
        CHECKS.due("many programs were tried", true, () -> programs.texts > 100000);
        CHECKS.due("wrong fault positions of families", 0, () -> families.wrong);
        CHECKS.due("wrong fault positions of programs", 0, () -> programs.wrong);
        CHECKS.end();
    }

    /** A beginning that can be continued: as a text of its own, and with each character behind it. */
    private void tryAll(String begun) {
        check(begun, isWhole(begun) ? -1 : begun.length());
        for (char next = 0; next < CHARACTERS; next++) {
            String text = begun + next;
            if (!canBegin(text)) {
                check(text, begun.length());
                check(text + "1 1 0x1", begun.length());
            } else if (isWorthwhile(next, text)) {
                tryAll(text);
            } else {
                check(text, isWhole(text) ? -1 : text.length());
            }
        }
    }

    /** One digit stands for all; a third command is as the second one. */
    private boolean isWorthwhile(char next, String text) {
        boolean isDigit = next >= '0' && next <= '9';
        return text.length() < longest && (!isDigit || next == '1') && text.chars().filter(sign -> sign == ';').count() < 2;
    }

    private boolean isWhole(String text) {
        return pattern.matcher(text).matches();
    }

    private boolean canBegin(String text) {
        Matcher matcher = pattern.matcher(text);
        return matcher.matches() || matcher.hitEnd();
    }

    private void check(String text, int position) {
        texts++;
        MouldFloor x = new MouldFloor();
        for (char character : text.toCharArray()) {
            x.append(character);
        }
        Object answer = Checks.answerOf(() -> pattern == FAMILY ? x.family() : x.program());
        boolean isFault = answer == Checks.ARGUMENT;
        if (isFault != position >= 0 || x.faultPosition() != position || x.account(14) != 0 || x.account(13) > 1) {
            wrong++;
            System.out.println("\"" + text + "\" answered " + answer + " with the fault position " + x.faultPosition()
                + ", due is " + position);
        }
    }
}
