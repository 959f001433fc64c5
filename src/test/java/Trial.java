import java.io.IOException;
import java.nio.file.Files;
import java.nio.file.Path;

/** What the tests share: typing a text to a tape, and noting each answer that is not as due. */
final class Trial {
    static final String MOOR = "moor gaps 1 days 1 each 2 due 1;";

    private static final int SHOWN = 40;

    private final String document;
    private String sentence = "";
    private int asked = 0;
    private int wrong = 0;

    /** The document is looked at so that no test can quote what it does not say. */
    Trial() throws IOException {
        document = squeeze(Files.readString(Path.of("../shared/DOC.md")));
    }

    private static String squeeze(String text) {
        return text.replaceAll("\\s+", " ");
    }

    /** All that is asked from here on is asked for this sentence of the document. */
    void sentence(String quoted) {
        sentence = quoted;
        if (!document.contains(squeeze(quoted))) {
            complain("the document does not say this");
        }
    }

    /** All that is asked from here on is asked for this. */
    void about(String what) {
        sentence = what;
    }

    private void complain(String what) {
        wrong++;
        if (wrong <= SHOWN) {
            System.out.println("\"" + sentence + "\"\n    " + what);
        }
    }

    void is(String call, long got, long want) {
        asked++;
        if (got != want) {
            complain(call + " answered " + got + ", due is " + want);
        }
    }

    void same(String what, String got, String want) {
        asked++;
        if (!got.equals(want)) {
            int at = 0;
            while (at < got.length() && at < want.length() && got.charAt(at) == want.charAt(at)) {
                at++;
            }
            int from = Math.max(0, at - 30);
            complain(what + ": .." + got.substring(from, Math.min(got.length(), at + 10)) + "..\n    due is: .."
                + want.substring(from, Math.min(want.length(), at + 10)) + "..");
        }
    }

    static int[] five(String text, int from) {
        int[] five = new int[5];
        for (int j = 0; j < 20; j++) {
            int sign = from + j < text.length() ? text.charAt(from + j) : 0;
            five[j / 4] |= (sign & 255) << (24 - 8 * (j % 4));
        }
        return five;
    }

    /** Puts a text behind what the tape has. */
    static void type(HundredthSheep x, String text) {
        int length = x.count(6) + text.length();
        for (int i = 0; i < text.length(); i += 20) {
            int[] five = five(text, i);
            x.feed(five[0], five[1], five[2], five[3], five[4]);
        }
        x.end(length);
    }

    static void rowOf(HundredthSheep x, int slot, long... numbers) {
        x.row(slot, 2, numbers.length);
        for (int i = 0; i < numbers.length; i++) {
            x.write(slot, i, numbers[i]);
        }
    }

    HundredthSheep told(String text) {
        HundredthSheep x = new HundredthSheep();
        type(x, text);
        int lines = x.moor();
        asked++;
        if (lines <= 0) {
            complain("moor() answered " + lines + ", fault " + x.fault(0) + " at " + x.fault(1) + " in " + text);
        }
        return x;
    }

    void faulty(String text, int fault, int place) {
        HundredthSheep x = new HundredthSheep();
        type(x, text);
        is("moor() of " + text, x.moor(), -4);
        is("fault(0) of " + text, x.fault(0), fault);
        is("fault(1) of " + text, x.fault(1), place);
        is("count(5) of " + text, x.count(5), 0);
    }

    /** A number of a text: the least and the most are taken, the next on both sides are not. */
    void bounds(String before, String after, int least, int most) {
        told(before + least + after);
        told(before + most + after);
        if (least > 0) {
            faulty(before + (least - 1) + after, 2, before.length());
        } else {
            // below 0 there is no number: its sign is no token
            faulty(before + "-1" + after, 1, before.length());
        }
        faulty(before + (most + 1) + after, 2, before.length());
    }

    void close() {
        System.out.println(asked + " answers, " + wrong + " not as due");
        if (wrong != 0) {
            System.exit(1);
        }
    }
}
