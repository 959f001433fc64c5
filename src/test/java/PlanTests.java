import java.io.IOException;
import java.util.ArrayList;
import java.util.List;
import java.util.function.ToIntFunction;

/** Promises 18 to 27, where drives best go, harm and rings: each bound that a sentence names, and what is left as it was. */
public final class PlanTests extends Trial {
    private PlanTests() throws IOException {
        super();
    }

    private void best() {
        sentence("BEST (IV) for a DRIVE, what 0: what its owner pays in all then, 1: GAP, 2: HOUR. -2: there are none such.");
        for (int i : notBelow(5)) {
            refused("best(" + i + ", 0)", y -> y.best(i, 0), -2);
        }
        for (int what : notBelow(3)) {
            refused("best(0, " + what + ")", y -> y.best(0, what), -2);
        }
        for (int what = 0; what < 3; what++) {
            int asked = what;
            needsMoor("best(0, " + what + ")", y -> y.best(0, asked));
            needsMoor("best(4, " + what + ")", y -> y.best(4, asked));
        }
        is("best(11, 0) of the most", full().best(11, 0), 6 * 198 * 999);
        is("best(0, 2) of one that best never goes", told(MOOR + drive(0, 0, 0, 23, 9) + " lame;").best(0, 2), 23);
        sentence("SPLIT (IV) of a DRIVE, what 0: what its owner pays then, 1: how many sheep stay, 2: GAP of the others, 3: "
            + "their HOUR. NONE: it has but one sheep; -2: there are none such.");
        for (int i : notBelow(5)) {
            refused("split(" + i + ", 0)", y -> y.split(i, 0), -2);
        }
        for (int what : notBelow(4)) {
            refused("split(0, " + what + ")", y -> y.split(0, what), -2);
            refused("split(4, " + what + ")", y -> y.split(4, what), -2);
        }
        for (int what = 0; what < 4; what++) {
            int asked = what;
            refused("split(4, " + what + ") of one sheep", y -> y.split(4, asked), -1);
            needsMoor("split(0, " + what + ")", y -> y.split(0, asked));
            HundredthSheep one = told(MOOR + DRIVE + " lambs 99;" + drive(0, 0, 0, 5, 2) + ";");
            is("split(0, " + what + ") of one sheep and lambs", one.split(0, what), -1);
            is("split(1, 1) of two sheep", one.split(1, 1), 1);
        }
        is("split(11, 0) of the most", full().split(11, 0), 6 * 198 * 999);
    }

    private void rest() {
        sentence("REST: the first DRIVE by whose BEST its owner pays less than now; NONE: none, all rest. -2: there is no MOOR.");
        is("rest() without drives", told(MOOR).rest(), -1);
        is("rest() of one that pays nothing", told(MOOR + DRIVE + ";").rest(), -1);
        is("rest() of one that pays by all that is", full().rest(), -1);
        String free = repeat("drive 1 gap 0 on 0 at 0 sheep 2;", 11);
        HundredthSheep last = told("moor gaps 2 days 1 each 2 due 1;owners 2;start 1 is 1;" + free + "drive 0 gap 1 on 0 at 0 sheep 1;");
        is("rest(), the last", last.rest(), 11);
        last.law(4, 0);
        is("rest(), due 0", last.rest(), -1);
        HundredthSheep first = told("moor gaps 2 days 1 each 2 due 1;start 1 is 1;drive 0 gap 1 on 0 at 0 sheep 1;"
            + "drive 0 gap 1 on 0 at 0 sheep 2;");
        is("rest(), the first", first.rest(), 0);
        needsMoor("rest()", y -> y.rest());
    }

    // found by trying: all rest behind the 30th, the 31st, never
    private static final String THIRTY = "moor gaps 1 days 1 each 3 due 1;owners 2;drive 0 gap 0 on 0 at 0 sheep 5;"
        + "drive 0 gap 0 on 0 at 0 sheep 4;drive 1 gap 0 on 0 at 3 sheep 2;drive 1 gap 0 on 0 at 3 sheep 4;"
        + "drive 1 gap 0 on 0 at 3 sheep 2;drive 0 gap 0 on 0 at 2 sheep 5;";
    private static final String THIRTY_ONE = "moor gaps 1 days 1 each 5 due 1;owners 3;drive 2 gap 0 on 0 at 3 sheep 4;"
        + "drive 0 gap 0 on 0 at 3 sheep 6;drive 1 gap 0 on 0 at 0 sheep 2;drive 1 gap 0 on 0 at 2 sheep 4;"
        + "drive 0 gap 0 on 0 at 0 sheep 1;drive 1 gap 0 on 0 at 1 sheep 1;";
    private static final String NEVER = "moor gaps 1 days 1 each 3 due 1;owners 3;drive 0 gap 0 on 0 at 3 sheep 1;"
        + "drive 0 gap 0 on 0 at 3 sheep 5;drive 1 gap 0 on 0 at 0 sheep 1;";

    private static final String RIVALS = "moor gaps 2 days 1 each 10 due 5;owners 2;drive 0 gap 0 on 0 at 8 sheep 9;"
        + "drive 1 gap 0 on 0 at 9 sheep 3;";
    private static final String FOUR = "moor gaps 2 days 1 each 5 due 1;owners 3;drive 1 gap 0 on 0 at 3 sheep 4;"
        + "drive 2 gap 1 on 0 at 2 sheep 4;drive 0 gap 0 on 0 at 3 sheep 3;drive 2 gap 1 on 0 at 1 sheep 1;"
        + "drive 2 gap 1 on 0 at 1 sheep 3;";
    private static final String NEVER_AT_TWO_GAPS = "moor gaps 2 days 1 each 4 due 1;owners 2;drive 0 gap 0 on 0 at 1 sheep 5;"
        + "drive 1 gap 1 on 0 at 0 sheep 2;drive 1 gap 0 on 0 at 3 sheep 5;drive 1 gap 1 on 0 at 3 sheep 6;"
        + "drive 0 gap 1 on 0 at 1 sheep 6;";

    private void rests() {
        sentence("n (0 .. 30) times (in thought) that DRIVE goes as is BEST: how many times till all rest; NONE: they do not. "
            + "-2: there is none such, no MOOR.");
        restsAt(THIRTY, 30);
        restsAt(THIRTY_ONE, 31);
        restsAt(NEVER, 1000);
        restsAt(MOOR, 0);
        restsAt(RIVALS, 3);
        restsAt(FOUR, 4);
        restsAt(NEVER_AT_TWO_GAPS, 1000);
        for (int n : notBelow(31)) {
            refused("rests(" + n + ")", y -> y.rests(n), -2);
            refused("sent(0, " + n + ")", y -> y.sent(0, n), -2);
            refusedWithoutMoor("rests(" + n + ")", y -> y.rests(n));
        }
        needsMoor("rests(0)", y -> y.rests(0));
        needsMoor("rests(30)", y -> y.rests(30));
        sentence("100 times the GAP and the HOUR of a DRIVE behind these (or behind all n). -2 likewise, no such DRIVE.");
        for (int i : notBelow(5)) {
            refused("sent(" + i + ", 0)", y -> y.sent(i, 0), -2);
            refused("sent(" + i + ", 30)", y -> y.sent(i, 30), -2);
        }
        needsMoor("sent(0, 0)", y -> y.sent(0, 0));
        needsMoor("sent(4, 30)", y -> y.sent(4, 30));
        HundredthSheep none = told(MOOR);
        is("sent(0, 0) without drives", none.sent(0, 0), -2);
        HundredthSheep still = told(moor(4, 1, 100, 1) + drive(0, 3, 0, 23, 1) + ";");
        is("sent(0, 30) of one that rests", still.sent(0, 30), 323);
    }

    /** What is thought of n times is what comes of it if it is done. */
    private void restsAt(String text, int last) {
        HundredthSheep thought = told(text);
        HundredthSheep done = told(text);
        int drives = done.count(3);
        for (int n = 0; n <= 30; n++) {
            int moves = done.rest();
            is("rests(" + n + ") of " + last, thought.rests(n), n < last ? -1 : last);
            is("rest() behind " + n, moves == -1 ? 1 : 0, n < last ? 0 : 1);
            // not behind each of them, lest one object is asked more than 512 times
            for (int i = 0; i < drives && (n < 6 || n > 27); i++) {
                is("sent(" + i + ", " + n + ")", thought.sent(i, n), 100 * done.drive(i, 1) + done.drive(i, 3));
            }
            if (moves != -1) {
                done.sets(moves, done.best(moves, 1), done.best(moves, 2));
            }
        }
    }

    private void harm() {
        sentence("HARM: how much more all others than its owner pay in all by a DRIVE than without it (below 0: less). -2: there "
            + "is none such.");
        for (int i : notBelow(5)) {
            refused("harm(" + i + ")", y -> y.harm(i), -2);
        }
        needsMoor("harm(0)", y -> y.harm(0));
        needsMoor("harm(4)", y -> y.harm(4));
        HundredthSheep x = told(moor(1, 1, 2, 999) + "owners 3;" + drive(0, 0, 0, 0, 1) + ";" + drive(1, 0, 0, 1, 1) + ";"
            + drive(2, 0, 0, 2, 1) + ";" + drive(2, 0, 0, 3, 2) + " painted 0;");
        // 1 is due, then the first of the painted: without 0 it is 2 and the second of the painted
        is("harm(0)", x.harm(0), 999 - 999);
        // without 1 it is 2, and then the second of the painted as well
        is("harm(1), less", x.harm(1), -999);
        is("harm(3), painted", x.harm(3), 999);
        HundredthSheep lambs = told(moor(1, 1, 2, 7) + "owners 2;" + drive(0, 0, 0, 0, 2) + " lambs 1;" + drive(1, 0, 0, 1, 1) + ";");
        is("harm(0), its lambs too", lambs.harm(0), 7);
        is("harm(0) of the only one", told(MOOR + drive(0, 0, 0, 0, 9) + ";").harm(0), 0);
    }

    private void ewe() {
        sentence("A LAME EWE: how much more all others pay in all, if one sheep more of an owner goes through a GAP on a DAY at "
            + "an HOUR, as a DRIVE told last. -2: there are none such.");
        for (int wrong : notBelow(3)) {
            refused("ewe(" + wrong + ", 0, 0, 0)", y -> y.ewe(wrong, 0, 0, 0), -2);
            refused("ewe(0, " + wrong + ", 0, 0)", y -> y.ewe(0, wrong, 0, 0), -2);
            refused("ewe(0, 0, " + wrong + ", 0)", y -> y.ewe(0, 0, wrong, 0), -2);
        }
        for (int hour : notBelow(24)) {
            refused("ewe(0, 0, 0, " + hour + ")", y -> y.ewe(0, 0, 0, hour), -2);
        }
        needsMoor("ewe(0, 0, 0, 0)", y -> y.ewe(0, 0, 0, 0));
        needsMoor("ewe(2, 2, 2, 23)", y -> y.ewe(2, 2, 2, 23));
        // his first is due; ahead of it the ewe is, and then his second; behind it, in its very hour too, both of his are
        HundredthSheep x = told(moor(4, 9, 2, 999) + "owners 2;start 3 is 1;" + drive(1, 3, 8, 5, 1) + ";" + drive(1, 3, 8, 23, 1) + ";");
        is("paid(1)", x.paid(1), 999);
        is("ewe(0, 3, 8, 4), ahead of both", x.ewe(0, 3, 8, 4), 0);
        is("ewe(0, 3, 8, 5), behind the first", x.ewe(0, 3, 8, 5), 999);
        is("ewe(0, 3, 8, 23), behind all", x.ewe(0, 3, 8, 23), 0);
        is("ewe(1, 3, 8, 5), his own", x.ewe(1, 3, 8, 5), 0);
        // a split that was thought of, with its lambs and lame, is not the ewe
        HundredthSheep split = told(moor(1, 1, 5, 7) + "owners 2;" + drive(0, 0, 0, 5, 2) + " lambs 1 lame;" + drive(1, 0, 0, 9, 1) + ";");
        is("split(0, 0)", split.split(0, 0), 0);
        is("ewe(0, 0, 0, 8) behind a split", split.ewe(0, 0, 0, 8), 7);
        HundredthSheep twelve = told(moor(1, 1, 2, 1) + "owners 2;" + repeat(drive(1, 0, 0, 0, 1) + ";", 12));
        is("ewe(0, 0, 0, 0), told last of thirteen", twelve.ewe(0, 0, 0, 0), 0);
        twelve.sets(11, 0, 1);
        is("ewe(0, 0, 0, 0), ahead of one", twelve.ewe(0, 0, 0, 0), -1);
    }

    private void waits() {
        sentence("Its best HOUR of that DAY (what 0; the first of several), how much more that is (1). -2 likewise, no such "
            + "what.");
        for (int wrong : notBelow(3)) {
            refused("waits(" + wrong + ", 0, 0, 0)", y -> y.waits(wrong, 0, 0, 0), -2);
            refused("waits(0, " + wrong + ", 0, 0)", y -> y.waits(0, wrong, 0, 0), -2);
            refused("waits(0, 0, " + wrong + ", 0)", y -> y.waits(0, 0, wrong, 0), -2);
        }
        for (int what : notBelow(2)) {
            refused("waits(0, 0, 0, " + what + ")", y -> y.waits(0, 0, 0, what), -2);
        }
        needsMoor("waits(0, 0, 0, 0)", y -> y.waits(0, 0, 0, 0));
        needsMoor("waits(2, 2, 2, 1)", y -> y.waits(2, 2, 2, 1));
        HundredthSheep none = told(MOOR);
        is("waits(0, 0, 0, 0), all the same", none.waits(0, 0, 0, 0), 0);
        is("waits(0, 0, 0, 1), all the same", none.waits(0, 0, 0, 1), 0);
        // ahead of the other it takes his due from him, so the first hour behind is best: up to the last
        HundredthSheep x = told(moor(1, 1, 2, 7) + "owners 2;start 0 is 1;" + drive(1, 0, 0, 22, 1) + ";");
        int[][] best = {{22, 22}, {23, 23}, {0, 0}, {1, 1}};
        for (int[] b : best) {
            x.sets(0, 0, b[0]);
            is("waits(0, 0, 0, 0) behind " + b[0], x.waits(0, 0, 0, 0), b[1]);
            is("waits(0, 0, 0, 1) behind " + b[0], x.waits(0, 0, 0, 1), 0);
        }
        // between the two the other pays one more
        HundredthSheep y = told(moor(1, 1, 2, 7) + "owners 2;start 0 is 1;" + drive(1, 0, 0, 22, 1) + ";" + drive(1, 0, 0, 23, 1) + ";");
        is("waits(0, 0, 0, 0), between", y.waits(0, 0, 0, 0), 22);
        is("waits(0, 0, 0, 1), between", y.waits(0, 0, 0, 1), 7);
        is("waits(1, 0, 0, 0), his own", y.waits(1, 0, 0, 0), 0);
        // on the next day it would take nothing from the other, but it goes on its own
        HundredthSheep day = told(moor(1, 2, 2, 7) + "owners 2;start 0 is 1;" + drive(1, 0, 1, 0, 1) + ";");
        is("waits(0, 0, 0, 0), of that day", day.waits(0, 0, 0, 0), 0);
        is("waits(0, 0, 0, 1), of that day", day.waits(0, 0, 0, 1), -7);
        is("waits(0, 0, 1, 0), of the next", day.waits(0, 0, 1, 0), 0);
        is("waits(0, 0, 1, 1), of the next", day.waits(0, 0, 1, 1), 0);
    }

    private void ring() {
        sentence("RING: how many DUES n sheep (1 .. 999) pay that go through a GAP at the end of all, one behind the other, r "
            + "times (0 .. 99) round. -2: there are none such.");
        for (int gap : notBelow(3)) {
            refused("ring(" + gap + ", 1, 1)", y -> y.ring(gap, 1, 1), -2);
            refused("rounds(" + gap + ", 1)", y -> y.rounds(gap, 1), -2);
        }
        int[] sheep = {LEAST, -1, 0, 1000, MOST};
        for (int n : sheep) {
            refused("ring(0, " + n + ", 1)", y -> y.ring(0, n, 1), -2);
            refused("ring(0, " + n + ", 0)", y -> y.ring(0, n, 0), -2);
            refused("rounds(0, " + n + ")", y -> y.rounds(0, n), -2);
        }
        for (int r : notBelow(100)) {
            refused("ring(0, 1, " + r + ")", y -> y.ring(0, 1, r), -2);
        }
        needsMoor("ring(0, 1, 0)", y -> y.ring(0, 1, 0));
        needsMoor("ring(2, 999, 99)", y -> y.ring(2, 999, 99));
        HundredthSheep x = told(moor(4, 1, 100, 1) + "start 3 is 99;");
        int[][] dues = {{0, 1, 0, 0}, {0, 999, 0, 0}, {0, 1, 99, 0}, {0, 50, 2, 1}, {0, 33, 3, 0}, {0, 999, 99, 989}, {3, 1, 0, 0}, {3, 1, 1, 1},
            {3, 1, 99, 1}, {3, 101, 1, 2}, {3, 100, 1, 1}};
        for (int[] d : dues) {
            is("ring(" + d[0] + ", " + d[1] + ", " + d[2] + ")", x.ring(d[0], d[1], d[2]), d[3]);
        }
        x.law(3, 2);
        is("ring(0, 999, 99), each 2", x.ring(0, 999, 99), 999 * 99 / 2);
        is("ring(3, 1, 1), a counter above each", x.ring(3, 1, 1), 1);
        is("ring(3, 2, 1), a counter above each", x.ring(3, 2, 1), 1);
        is("ring(3, 3, 1), a counter above each", x.ring(3, 3, 1), 2);
    }

    private void rounds() {
        sentence("The fewest times round by which the last of them is due as it goes through the last time; NONE: none (each "
            + "times at most). -2: there are none such.");
        needsMoor("rounds(0, 1)", y -> y.rounds(0, 1));
        needsMoor("rounds(2, 999)", y -> y.rounds(2, 999));
        int[] every = {2, 3, 100};
        for (int each : every) {
            HundredthSheep x = told(moor(2, 1, each, 1) + "start 1 is " + (each - 1) + ";");
            is("rounds(0, 1), each times", x.rounds(0, 1), each);
            is("rounds(1, 1), once", x.rounds(1, 1), 1);
            is("rounds(0, " + each + "), once", x.rounds(0, each), 1);
            is("rounds(1, " + each + "), never", x.rounds(1, each), -1);
        }
        HundredthSheep x = told(moor(2, 1, 100, 1) + "start 1 is 50;");
        is("rounds(0, 999)", x.rounds(0, 999), 100);
        is("rounds(1, 999)", x.rounds(1, 999), 50);
        is("rounds(1, 4), never", x.rounds(1, 4), -1);
        is("rounds(1, 25)", x.rounds(1, 25), 2);
        is("rounds(1, 50)", x.rounds(1, 50), 1);
        x.law(3, 50);
        is("rounds(1, 1), a counter of each", x.rounds(1, 1), 1);
        is("rounds(1, 2), a counter of each", x.rounds(1, 2), -1);
        is("rounds(1, 51), a counter of each", x.rounds(1, 51), 1);
    }

    /** What is only looked at or thought of leaves nothing behind: each answer is the same behind any other. */
    private void thoughts() {
        sentence("(in thought)");
        List<ToIntFunction<HundredthSheep>> calls = lookingCalls();
        int[] alone = new int[calls.size()];
        for (int b = 0; b < alone.length; b++) {
            alone[b] = calls.get(b).applyAsInt(Look.made());
        }
        for (int a = 0; a < alone.length; a++) {
            HundredthSheep x = Look.made();
            for (int b = 0; b < alone.length; b++) {
                calls.get(a).applyAsInt(x);
                is("call " + b + " behind call " + a, calls.get(b).applyAsInt(x), alone[b]);
            }
        }
    }

    private static List<ToIntFunction<HundredthSheep>> lookingCalls() {
        List<ToIntFunction<HundredthSheep>> calls = new ArrayList<>(List.of(x -> x.dues(), x -> x.worst(), x -> x.rest(), x -> x.due(1, 5),
            x -> x.rests(30), x -> x.rests(1), x -> x.orders(0, 0, 2), x -> x.order(0, 0, 2, 0), x -> x.wrong(0, 0), x -> x.anew(0, 0)));
        for (int i = 0; i < 5; i++) {
            int drive = i;
            calls.addAll(List.of(x -> x.harm(drive), x -> x.best(drive, 0), x -> x.best(drive, 2), x -> x.split(drive, 0),
                x -> x.split(drive, 3), x -> x.sent(drive, 1), x -> x.sent(drive, 30), x -> x.sure(0, 0, 2, drive), x -> x.goes(drive)));
        }
        for (int i = 0; i < 3; i++) {
            int at = i;
            calls.addAll(List.of(x -> x.paid(at), x -> x.pays(at, 2), x -> x.left(at), x -> x.counter(at, 1, 23), x -> x.through(at, 2, 1)));
            calls.addAll(List.of(x -> x.ring(at, 99, 9), x -> x.rounds(at, 5), x -> x.mixed(7, at), x -> x.luck(7, 9, at), x -> x.free(at)));
            calls.addAll(List.of(x -> x.all(at), x -> x.waits(at, 0, 2, 0), x -> x.waits(at, 2, 1, 1), x -> x.ewe(at, 0, 2, 0)));
            calls.addAll(List.of(x -> x.ewe(at, 1, 0, 7), x -> x.ewe(at, 2, 0, 9), x -> x.ewe(at, 0, 1, 23), x -> x.ewe(at, 2, 2, 1)));
        }
        return calls;
    }

    public static void main(String[] args) throws IOException {
        PlanTests tests = new PlanTests();
        tests.best();
        tests.rest();
        tests.rests();
        tests.harm();
        tests.ewe();
        tests.waits();
        tests.ring();
        tests.rounds();
        tests.thoughts();
        tests.close();
    }
}
