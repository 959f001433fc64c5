import java.io.IOException;
import java.nio.file.Files;
import java.nio.file.Path;
import java.util.function.Consumer;
import java.util.function.ToIntFunction;

/** What the tests share: telling a moor, asking, and noting each answer that is not as due. */
abstract class Trial {
    static final int LEAST = Integer.MIN_VALUE;
    static final int MOST = Integer.MAX_VALUE;
    static final String MOOR = moor(1, 1, 2);
    static final String DRIVE = drive(0, 0, 0, 0, 1);
    static final String FOG = "fog 0 on 0 misses 2;";

    private static final int SHOWN = 40;

    private final String document;
    private String sentence = "";
    private int asked = 0;
    private int wrong = 0;

    /** The document is looked at so that no test can quote what it does not say. */
    Trial() throws IOException {
        document = squeeze(Files.readString(Path.of("../shared/DOC.md")));
    }

    static String squeeze(String text) {
        return text.replaceAll("\\s+", " ");
    }

    // ---- texts

    static String moor(int gaps, int days, int each) {
        return moor(gaps, days, each, 1);
    }

    static String moor(int gaps, int days, int each, int due) {
        return "moor gaps " + gaps + " days " + days + " each " + each + " due " + due + ";";
    }

    static String drive(int owner, int gap, int day, int hour, int sheep) {
        return "drive " + owner + " gap " + gap + " on " + day + " at " + hour + " sheep " + sheep;
    }

    static String repeat(String text, int times) {
        return text.repeat(times);
    }

    /** Puts a text behind what the tape has. */
    static void type(HundredthSheep x, String text) {
        int length = x.count(6) + text.length();
        for (int i = 0; i < text.length(); i += 20) {
            int[] five = new int[5];
            for (int j = 0; j < 20; j++) {
                int sign = i + j < text.length() ? text.charAt(i + j) : 0;
                five[j / 4] |= sign << (24 - 8 * (j % 4));
            }
            x.feed(five[0], five[1], five[2], five[3], five[4]);
        }
        x.end(length);
    }

    static void rowOf(HundredthSheep x, int slot, long... numbers) {
        x.row(slot, 2, numbers.length);
        for (int i = 0; i < numbers.length; i++) {
            x.write(slot, i, numbers[i]);
        }
    }

    // ---- answers

    /** All that is asked from here on is asked for this sentence of the document. */
    void sentence(String quoted) {
        about(quoted);
        if (!document.contains(squeeze(quoted))) {
            complain("the document does not say this");
        }
    }

    void about(String what) {
        sentence = what;
    }

    private void complain(String what) {
        wrong++;
        if (wrong <= SHOWN) {
            System.out.println("\"" + sentence + "\"\n    " + what);
        }
    }

    void is(String call, long got, long want) {
        asked++;
        if (got != want) {
            complain(call + " answered " + got + ", due is " + want);
        }
    }

    private void same(String what, String got, String want) {
        asked++;
        if (!got.equals(want)) {
            int at = 0;
            while (at < got.length() && at < want.length() && got.charAt(at) == want.charAt(at)) {
                at++;
            }
            complain(what + " it is " + around(got, at) + ", due is " + around(want, at));
        }
    }

    private static String around(String text, int at) {
        return ".." + text.substring(Math.max(0, at - 30), Math.min(text.length(), at + 10)) + "..";
    }

    HundredthSheep told(String text) {
        HundredthSheep x = new HundredthSheep();
        type(x, text);
        int lines = x.moor();
        asked++;
        if (lines <= 0) {
            complain("moor() answered " + lines + ", fault " + x.fault(0) + " at " + x.fault(1) + " in " + text);
        }
        return x;
    }

    /** All that can go through one gap, by the least each and the greatest due: 1,188 dues of 999. */
    HundredthSheep full() {
        return told(moor(1, 1, 2, 999) + "owners 5;" + repeat(drive(4, 0, 0, 23, 99) + " lambs 99;", 12));
    }

    void faulty(String text, int fault, int place) {
        HundredthSheep x = new HundredthSheep();
        type(x, text);
        is("moor() of " + text, x.moor(), -4);
        is("fault(0) of " + text, x.fault(0), fault);
        is("fault(1) of " + text, x.fault(1), place);
        is("count(5) of " + text, x.count(5), 0);
    }

    /** A number of a text: the least and the most are taken, the next on both sides are not. */
    void bounds(String before, String after, int least, int most) {
        told(before + least + after);
        told(before + most + after);
        if (least > 0) {
            faulty(before + (least - 1) + after, 2, before.length());
        } else {
            // below 0 there is no number: its sign is no token
            faulty(before + "-1" + after, 1, before.length());
        }
        faulty(before + (most + 1) + after, 2, before.length());
    }

    // ---- what stays

    /** Numbers that are not 0 .. many less 1. */
    static int[] notBelow(int many) {
        return new int[] {LEAST, -1, many, many + 1, MOST};
    }

    /** All that can be seen of two objects is the same; to see it uses them up. */
    void alike(String when, HundredthSheep got, HundredthSheep want) {
        same(when, Look.at(got), Look.at(want));
    }

    /** Alike but for what fault() tells: it is told anew by each moor(). */
    void alikeButForFaults(String when, HundredthSheep got, HundredthSheep want) {
        String faults = "\nfault [^\n]*";
        same(when, Look.at(got).replaceAll(faults, ""), Look.at(want).replaceAll(faults, ""));
    }

    /** A call that is refused: what it answers, and that all is as it was. */
    void refused(String call, ToIntFunction<HundredthSheep> asks, int why) {
        refused(call, x -> { }, asks, why);
    }

    /** A call that is refused once an object has been made ready for it. */
    void refused(String call, Consumer<HundredthSheep> ready, ToIntFunction<HundredthSheep> asks, int why) {
        HundredthSheep untouched = Look.made();
        ready.accept(untouched);
        HundredthSheep x = Look.made();
        ready.accept(x);
        is(call, asks.applyAsInt(x), why);
        alike("behind " + call, x, untouched);
    }

    /** A call that is refused for want of a moor. */
    void refusedWithoutMoor(String call, ToIntFunction<HundredthSheep> asks) {
        HundredthSheep x = Look.bare();
        is(call + " without a moor", asks.applyAsInt(x), -2);
        alike("behind " + call + " without a moor", x, Look.bare());
    }

    /** A call that answers and changes nothing. */
    void looksOnly(String call, ToIntFunction<HundredthSheep> asks) {
        HundredthSheep x = Look.made();
        int answer = asks.applyAsInt(x);
        is(call + " again", asks.applyAsInt(x), answer);
        alike("behind " + call, x, Look.made());
    }

    /** A call that only looks, and has nothing to look at without a moor. */
    void needsMoor(String call, ToIntFunction<HundredthSheep> asks) {
        refusedWithoutMoor(call, asks);
        looksOnly(call, asks);
    }

    void close() {
        System.out.println(asked + " answers, " + wrong + " not as due");
        if (wrong != 0) {
            System.exit(1);
        }
    }
}
