import java.util.regex.Matcher;
import java.util.regex.Pattern;

/** Random texts, most of them spoiled in a few places, against the grammar as a regular expression. */
public final class RandomTextsTest {
    private static final int TEXTS = 20000;
    private static final int ROOM = 60;
    private static final String COMMAND = "(depth \\d\\d=\\d|light \\d\\d \\d/\\d{1,2}|phase \\d=\\d|douse \\d"
        + "|ship \\d\\d \\d|steer \\d>\\d\\d|salvage \\d|wait \\d{1,2})";
    private static final Pattern TEXT = Pattern.compile(COMMAND + "(;" + COMMAND + ")*");
    private static final String[] SHAPES = {"depth ##=#", "light ## #/#", "light ## #/##", "phase #=#", "douse #",
        "ship ## #", "steer #>##", "salvage #", "wait #", "wait ##"};
    private static final String SIGNS = "0123456789 ;=/>:,-depthligasuxrvwDEPWS\0\t\n\u00a0\u00b2\u0660\uff11\uffff";

    private static long seed = 61;

    private RandomTextsTest() {
    }

    public static void main(String[] args) {
        int matching = 0;
        for (int index = 0; index < TEXTS; index++) {
            String text = text();
            matching += TEXT.matcher(text).matches() ? 1 : 0;
            look(text);
        }
        int found = matching;
        Check.yes("texts of both kinds", found > TEXTS / 10 && found < TEXTS * 9 / 10);
        Check.end("RandomTextsTest");
    }

    private static int below(int bound) {
        seed = seed * 6364136223846793005L + 1442695040888963407L;
        return (int) ((seed >>> 33) % bound);
    }

    private static String text() {
        StringBuilder text = new StringBuilder();
        for (int left = below(8); left >= 0; left--) {
            for (char sign : SHAPES[below(SHAPES.length)].toCharArray()) {
                text.append(sign == '#' ? (char) ('0' + below(10)) : sign);
            }
            text.append(left == 0 ? "" : ";");
        }
        for (int spoiled = below(3); spoiled > 0 && text.length() > 0; spoiled--) {
            spoil(text, below(text.length()));
        }
        text.setLength(Math.min(text.length(), ROOM));
        return text.toString();
    }

    private static void spoil(StringBuilder text, int place) {
        switch (below(4)) {
            case 0:
                text.setLength(place);
                break;
            case 1:
                text.deleteCharAt(place);
                break;
            case 2:
                text.insert(place, SIGNS.charAt(below(SIGNS.length())));
                break;
            default:
                text.setCharAt(place, SIGNS.charAt(below(SIGNS.length())));
        }
    }

    private static void look(String text) {
        BeamChart x = new BeamChart();
        if (!TEXT.matcher(text).matches()) {
            Edge.feed(x, text);
            Check.argument("execute of " + text, x::execute);
            Check.same("fault position of " + text, fault(text), x::faultPosition);
            Check.noElement("denial of " + text, x::denial);
        } else {
            int commands = text.split(";").length;
            Check.yes("execute of " + text, answersOrIsDenied(x, text, commands));
            Check.noElement("fault position of " + text, x::faultPosition);
        }
        Check.same("the buffer is empty after " + text, 1, () -> x.feed('w'));
    }

    private static boolean answersOrIsDenied(BeamChart x, String text, int commands) {
        try {
            return Check.execute(x, text) == commands && x.undoCount() == 1;
        } catch (UnsupportedOperationException e) {
            return x.denial() == 8 && x.denialDetail() < commands && x.denialCause() > 0 && x.undoCount() == 0;
        }
    }

    /** A matcher that stopped at the end could have gone on with more signs. */
    private static int fault(String text) {
        for (int length = 1; length <= text.length(); length++) {
            Matcher matcher = TEXT.matcher(text.substring(0, length));
            if (!matcher.matches() && !matcher.hitEnd()) {
                return length - 1;
            }
        }
        return text.length();
    }
}
