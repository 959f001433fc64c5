import java.io.IOException;

/** Terms II to VI, who goes when and pays what: each bound that a sentence names. */
public final class MoorTests extends Trial {
    private MoorTests() throws IOException {
        super();
    }

    // ---- II: who goes when, and what is counted

    private void orderOfGoing() {
        sentence("DRIVES go through by DAYS, HOURS, then GAPS, then numbers;");
        // each of two sheep, so each has one due; told in no order
        HundredthSheep x = told(moor(4, 9, 2) + drive(0, 0, 8, 0, 2) + ";" + drive(0, 3, 0, 0, 2) + ";" + drive(0, 0, 1, 0, 2) + ";"
            + drive(0, 3, 0, 23, 2) + ";" + drive(0, 0, 0, 23, 2) + ";" + drive(0, 0, 0, 0, 2) + ";" + drive(0, 0, 8, 23, 2) + ";"
            + drive(0, 2, 0, 0, 2) + ";" + drive(0, 1, 0, 0, 2) + ";" + drive(0, 3, 0, 22, 2) + ";" + drive(0, 0, 0, 0, 2) + ";"
            + drive(0, 1, 0, 0, 2) + ";");
        int[] order = {5, 10, 8, 11, 7, 1, 9, 4, 3, 2, 0, 6};
        is("dues()", x.dues(), 12);
        for (int i = 0; i < 12; i++) {
            is("due(" + i + ", 4)", x.due(i, 4), order[i]);
        }
        HundredthSheep same = told(moor(1, 1, 2) + repeat(drive(0, 0, 0, 5, 2) + ";", 12));
        for (int i = 0; i < 12; i++) {
            is("due(" + i + ", 4) of one hour", same.due(i, 4), i);
        }
    }

    private void lameOnes() {
        sentence("one that is lame goes an HOUR later (behind 23 at 0 of the next DAY; behind the last DAY never).");
        int[][] when = {{0, 0, 1}, {0, 22, 23}, {0, 23, 24}, {1, 0, 25}, {1, 23, 48}, {2, 22, 71}, {2, 23, -1}};
        for (int[] w : when) {
            HundredthSheep x = told(moor(1, 3, 2) + drive(0, 0, w[0], w[1], 2) + " lame;" + drive(0, 0, w[0], w[1], 1) + ";");
            is("goes(0) of day " + w[0] + " at " + w[1], x.goes(0), w[2]);
            is("goes(1), not lame", x.goes(1), 24 * w[0] + w[1]);
            is("drive(0, 2)", x.drive(0, 2), w[0]);
            is("drive(0, 3)", x.drive(0, 3), w[1]);
        }
        HundredthSheep x = told(moor(1, 1, 2) + drive(0, 0, 0, 23, 99) + " lambs 99 lame;");
        is("dues() of one that never goes", x.dues(), 0);
        is("through(0, 0, 0)", x.through(0, 0, 0), 0);
        is("counter(0, 0, 23)", x.counter(0, 0, 23), 0);
        is("mixed(0, 0)", x.mixed(0, 0), 0);
        is("harm(0)", x.harm(0), 0);
        x.sets(0, 0, 22);
        is("goes(0) of 22", x.goes(0), 23);
        is("through(0, 0, 0) at the last hour", x.through(0, 0, 0), 198);
    }

    private void lambsBehindSheep() {
        sentence("In each its sheep go one behind the other, then its lambs.");
        HundredthSheep x = told(moor(1, 1, 3) + drive(0, 0, 0, 0, 4) + " lambs 3;" + drive(0, 0, 0, 0, 2) + " lambs 1;");
        int[][] due = {{0, 2}, {0, 5}, {1, 1}};
        is("dues()", x.dues(), 3);
        for (int i = 0; i < 3; i++) {
            is("due(" + i + ", 4)", x.due(i, 4), due[i][0]);
            is("due(" + i + ", 5)", x.due(i, 5), due[i][1]);
        }
        HundredthSheep last = told(moor(1, 1, 99) + drive(0, 0, 0, 0, 99) + " lambs 99;");
        is("due(0, 5) of the last sheep", last.due(0, 5), 98);
        is("due(1, 5) of the last lamb", last.due(1, 5), 197);
        HundredthSheep first = told(moor(1, 1, 100) + drive(0, 0, 0, 0, 99) + " lambs 1;");
        is("due(0, 5) of the first lamb", first.due(0, 5), 99);
    }

    private void lambsThatAreCounted() {
        sentence("COUNTED are all sheep, and lambs, if lambs count, and from the DAY on from which they are lambs (ahead of it: "
            + "not).");
        String some = moor(1, 4, 100) + "lambs from 2;";
        for (int day = 0; day < 4; day++) {
            some += drive(0, 0, day, 0, 3) + " lambs 5;";
        }
        HundredthSheep x = told(some);
        HundredthSheep pass = told(some + "law pass;");
        for (int day = 0; day < 4; day++) {
            is("through(0, " + day + ", 0)", x.through(0, day, 0), 8);
            is("through(0, " + day + ", 1)", x.through(0, day, 1), day < 2 ? 3 : 8);
            is("through(0, " + day + ", 1), lambs pass", pass.through(0, day, 1), 3);
        }
        HundredthSheep lame = told(moor(1, 3, 100) + "lambs from 1;" + drive(0, 0, 0, 23, 1) + " lambs 1 lame;"
            + drive(0, 0, 0, 22, 1) + " lambs 1 lame;");
        is("through(0, 0, 1) on the day ahead", lame.through(0, 0, 1), 1);
        is("through(0, 1, 1) of one that comes late", lame.through(0, 1, 1), 2);
    }

    private void missedInFog() {
        sentence("In a FOG each so-manieth that would be counted at that GAP on that DAY is missed (not counted).");
        int[][] counted = {{2, 1, 1}, {2, 2, 1}, {2, 3, 2}, {2, 4, 2}, {9, 8, 8}, {9, 9, 8}, {9, 10, 9}, {9, 18, 16}, {9, 99, 88}};
        for (int[] c : counted) {
            HundredthSheep x = told(moor(1, 1, 100) + drive(0, 0, 0, 0, c[1]) + ";fog 0 on 0 misses " + c[0] + ";");
            is("through(0, 0, 1) of " + c[1] + " by " + c[0], x.through(0, 0, 1), c[2]);
            is("through(0, 0, 0) of " + c[1], x.through(0, 0, 0), c[1]);
            is("counter(0, 0, 0) of " + c[1] + " by " + c[0], x.counter(0, 0, 0), c[2]);
        }
        // the second and fourth of a day are missed: places 0 and 2 of the first, then 1 of the other
        HundredthSheep x = told(moor(1, 2, 3) + drive(0, 0, 0, 0, 3) + ";" + drive(0, 0, 0, 9, 3) + ";" + drive(0, 0, 1, 9, 2)
            + ";fog 0 on 0 misses 2;fog 0 on 1 misses 2;");
        is("dues()", x.dues(), 1);
        is("due(0, 4)", x.due(0, 4), 1);
        is("due(0, 5)", x.due(0, 5), 1);
        is("counter(0, 1, 9), anew by day", x.counter(0, 1, 9), 1);
        // one on the first day, so the second of the next is missed, not its first
        HundredthSheep anew = told(moor(1, 2, 3) + drive(0, 0, 0, 0, 1) + ";" + drive(0, 0, 1, 0, 3)
            + ";fog 0 on 0 misses 2;fog 0 on 1 misses 2;");
        is("through(0, 1, 1), anew by day", anew.through(0, 1, 1), 2);
        is("dues(), anew by day", anew.dues(), 1);
        is("due(0, 5), anew by day", anew.due(0, 5), 2);
        is("mixed(0, 0), anew by day", anew.mixed(0, 0), 1);
        // one has gone ahead of three: of these the second is missed, and the first is due
        HundredthSheep third = told(moor(1, 1, 2) + drive(0, 0, 0, 0, 1) + ";" + drive(0, 0, 0, 1, 3) + ";fog 0 on 0 misses 3;");
        is("dues(), the third missed", third.dues(), 1);
        is("due(0, 4), the third missed", third.due(0, 4), 1);
        is("due(0, 5), the third missed", third.due(0, 5), 0);
        is("counter(0, 0, 1), the third missed", third.counter(0, 0, 1), 1);
        // lambs that are not counted are not missed either
        HundredthSheep y = told(moor(1, 1, 9) + "law pass;" + drive(0, 0, 0, 0, 1) + " lambs 7;" + drive(0, 0, 0, 1, 2)
            + ";fog 0 on 0 misses 2;");
        is("through(0, 0, 1), lambs pass", y.through(0, 0, 1), 2);
        y.law(2, 0);
        is("through(0, 0, 1), lambs count", y.through(0, 0, 1), 5);
        // by all a fog is one gap's still
        HundredthSheep z = told(moor(2, 1, 9) + "law all;" + drive(0, 0, 0, 0, 3) + ";" + drive(0, 1, 0, 0, 3)
            + ";fog 1 on 0 misses 2;");
        is("counter(0, 0, 0) by all", z.counter(0, 0, 0), 5);
    }

    // ---- III: counters and who pays

    private void counters() {
        sentence("COUNTER: one of each GAP (by all: one for all), from its start on:");
        String text = moor(4, 1, 100) + "start 0 is 10;start 3 is 40;";
        for (int gap = 0; gap < 4; gap++) {
            text += drive(0, gap, 0, gap, gap + 1) + ";";
        }
        HundredthSheep x = told(text);
        int[] behind = {11, 2, 3, 44};
        for (int gap = 0; gap < 4; gap++) {
            is("counter(" + gap + ", 0, 23)", x.counter(gap, 0, 23), behind[gap]);
        }
        x.law(0, 1);
        int[] all = {11, 13, 16, 20};
        for (int gap = 0; gap < 4; gap++) {
            for (int hour = 0; hour < 4; hour++) {
                is("counter(" + gap + ", 0, " + hour + ") by all", x.counter(gap, 0, hour), all[hour]);
            }
        }
    }

    private void eachOrMore() {
        sentence("each that is counted is one more; if that is each or more, it is DUE:");
        int[] every = {2, 3, 50, 99};
        for (int each : every) {
            duesOf(each, 0, each - 1, 0);
            duesOf(each, 0, each, 1);
            duesOf(each, each - 1, 1, 1);
            duesOf(each, each - 2, 1, 0);
            duesOf(each, 1, each - 2 > 0 ? each - 2 : 1, each == 2 ? 1 : 0);
        }
        duesOf(50, 0, 99, 1);
        duesOf(49, 0, 98, 2);
        duesOf(2, 0, 99, 49);
        duesOf(2, 1, 99, 50);
        duesOf(100, 0, 99, 0);
        duesOf(100, 1, 99, 1);
        // more than each: a law that came later
        HundredthSheep x = told(moor(1, 1, 100) + "start 0 is 99;" + drive(0, 0, 0, 0, 7) + ";");
        int[][] later = {{100, 1, 6}, {99, 1, 6}, {8, 1, 6}, {7, 1, 6}, {6, 2, 0}, {5, 2, 1}, {2, 4, 0}};
        for (int[] law : later) {
            x.law(3, law[0]);
            is("dues() by each " + law[0], x.dues(), law[1]);
            is("due(0, 5) by each " + law[0], x.due(0, 5), 0);
            is("counter(0, 0, 0) by each " + law[0], x.counter(0, 0, 0), law[2]);
        }
    }

    private void duesOf(int each, int start, int sheep, int dues) {
        String text = moor(1, 1, each) + "start 0 is " + start + ";" + drive(0, 0, 0, 0, sheep) + ";";
        HundredthSheep x = told(text);
        is("dues() of " + text, x.dues(), dues);
        is("counter(0, 0, 0) of " + text, x.counter(0, 0, 0), start + sheep - each * dues);
    }

    private void whoPays() {
        sentence("who pays is the owner of its DRIVE, or by whom it is painted: so much as due; the COUNTER is 0 then.");
        int[] dues = {0, 1, 999};
        for (int due : dues) {
            HundredthSheep x = told("moor gaps 1 days 1 each 2 due " + due + ";owners 5;" + drive(4, 0, 0, 0, 2) + " painted 3;"
                + drive(2, 0, 0, 1, 4) + ";");
            int[] paid = {0, 0, 2 * due, due, 0};
            for (int owner = 0; owner < 5; owner++) {
                is("paid(" + owner + ") of " + due, x.paid(owner), paid[owner]);
            }
            is("due(0, 3)", x.due(0, 3), 3);
            is("due(1, 3)", x.due(1, 3), 2);
            is("counter(0, 0, 0)", x.counter(0, 0, 0), 0);
        }
    }

    private void nights() {
        sentence("If nights clear, it is 0 ahead of each DAY but the first.");
        HundredthSheep x = told(moor(2, 4, 9) + "law clear;start 0 is 5;start 1 is 7;" + drive(0, 0, 0, 23, 2) + ";"
            + drive(0, 0, 2, 1, 3) + ";");
        int[][] behind = {{0, 0, 0, 5}, {0, 0, 22, 5}, {0, 0, 23, 7}, {0, 1, 0, 0}, {0, 1, 23, 0}, {0, 2, 0, 0}, {0, 2, 1, 3},
            {0, 2, 23, 3}, {0, 3, 0, 0}, {1, 0, 0, 7}, {1, 0, 23, 7}, {1, 1, 0, 0}, {1, 3, 23, 0}};
        for (int[] b : behind) {
            is("counter(" + b[0] + ", " + b[1] + ", " + b[2] + ")", x.counter(b[0], b[1], b[2]), b[3]);
        }
        is("left(0)", x.left(0), 9);
        x.law(0, 1);
        is("counter(1, 0, 23) by all", x.counter(1, 0, 23), 7);
        is("counter(1, 1, 0) by all", x.counter(1, 1, 0), 0);
        x.law(1, 0);
        is("counter(1, 1, 0), nights keep", x.counter(1, 1, 0), 7);
        HundredthSheep night = told(moor(1, 2, 3) + "law clear;" + drive(0, 0, 0, 0, 1) + ";" + drive(0, 0, 1, 23, 4) + ";");
        is("due(0, 5), nights clear", night.due(0, 5), 2);
        is("left(0), nights clear", night.left(0), 2);
        is("mixed(0, 0), nights clear", night.mixed(0, 0), 1);
        night.law(1, 0);
        is("due(0, 5), nights keep", night.due(0, 5), 1);
        is("left(0), nights keep", night.left(0), 1);
        HundredthSheep one = told(moor(1, 1, 9) + "law clear;start 0 is 5;");
        is("counter(0, 0, 0) of the only day", one.counter(0, 0, 0), 5);
    }

    // ---- IV: where a drive best goes

    private void bests() {
        sentence("BEST: of all GAPS and HOURS (the same DAY) those by which the owner of the DRIVE pays least in all; the first: "
            + "GAP 0 first, then HOUR 0.");
        HundredthSheep all = told(moor(4, 1, 2) + drive(0, 3, 0, 23, 1) + ";");
        bestIs(all, 0, 0, 0, 0);
        // he pays at the first three gaps at any hour, and at the last but for hour 23, when another has gone
        String full = moor(4, 1, 3) + "owners 2;start 0 is 2;start 1 is 2;start 2 is 2;start 3 is 2;" + drive(0, 0, 0, 0, 1) + ";";
        HundredthSheep last = told(full + drive(1, 3, 0, 22, 1) + ";");
        bestIs(last, 0, 0, 3, 23);
        HundredthSheep middle = told(full + drive(1, 2, 0, 4, 1) + ";" + drive(1, 3, 0, 4, 1) + ";");
        bestIs(middle, 0, 0, 2, 5);
        // in one hour the lesser number goes first, so it is only behind 4 that this one pays nothing
        HundredthSheep number = told(moor(1, 1, 3) + "owners 2;start 0 is 2;" + drive(1, 0, 0, 4, 1) + ";" + drive(0, 0, 0, 0, 1) + ";");
        bestIs(number, 1, 0, 0, 4);
        bestIs(told(moor(4, 2, 2) + drive(0, 3, 0, 23, 1) + " lame;"), 0, 0, 0, 0);
        // one that is lame comes behind the night that clears
        bestIs(told(moor(1, 2, 2) + "law clear;owners 2;" + drive(1, 0, 0, 0, 1) + ";" + drive(0, 0, 0, 5, 1) + " lame;"), 1, 0, 0, 23);
        // on the other day he would pay nothing, but it stays on its own
        HundredthSheep day = told(moor(1, 2, 2) + "law clear;start 0 is 1;" + drive(0, 0, 0, 7, 1) + ";");
        bestIs(day, 0, 1, 0, 0);
    }

    private void bestIs(HundredthSheep x, int drive, int pays, int gap, int hour) {
        is("best(" + drive + ", 0)", x.best(drive, 0), pays);
        is("best(" + drive + ", 1)", x.best(drive, 1), gap);
        is("best(" + drive + ", 2)", x.best(drive, 2), hour);
    }

    private void splits() {
        sentence("SPLIT: so many sheep (1 .. all less 1) stay as told, the others and the lambs are a DRIVE told last, painted, lame "
            + "likewise, to any GAP, at any HOUR of that DAY, by which he pays least; the first: fewest that stay, then GAP, HOUR.");
        splitIs(told(moor(1, 1, 100) + drive(0, 0, 0, 5, 2) + ";"), 0, 0, 1, 0, 0);
        splitIs(told(moor(4, 1, 100) + drive(0, 3, 0, 5, 99) + ";"), 0, 0, 1, 0, 0);
        // gap 1 has room for one that is not due, or for 97 less than all
        splitIs(told(moor(2, 1, 99) + "start 1 is 97;" + drive(0, 0, 0, 5, 99) + ";"), 0, 0, 98, 1, 0);
        splitIs(told(moor(2, 1, 99) + drive(0, 0, 0, 5, 99) + ";"), 0, 0, 1, 1, 0);
        // the lambs go too: with one sheep they are three
        splitIs(told(moor(2, 1, 5) + "start 1 is 1;" + drive(0, 0, 0, 5, 4) + " lambs 2;"), 0, 0, 3, 1, 0);
        // if all sheep stayed, the lamb would not be due at gap 1
        splitIs(told(moor(2, 1, 3) + "start 1 is 1;" + drive(0, 0, 0, 5, 2) + " lambs 1;"), 0, 1, 1, 0, 0);
        // one of the two pays wherever the other goes; then the fewest stay, and the first gap and hour
        splitIs(told(moor(1, 1, 2) + "start 0 is 0;" + drive(0, 0, 0, 5, 2) + ";"), 0, 1, 1, 0, 0);
        // painted: another pays, so he pays nothing at once
        splitIs(told(moor(2, 1, 2) + "owners 2;" + drive(0, 0, 0, 5, 9) + " painted 1;"), 0, 0, 1, 0, 0);
        // lame: behind 23 the others never come
        splitIs(told(moor(1, 1, 2) + drive(0, 0, 0, 5, 3) + " lame;"), 0, 0, 1, 0, 23);
        splitIs(told(moor(1, 1, 2) + drive(0, 0, 0, 5, 3) + ";"), 0, 1, 1, 0, 0);
    }

    private void splitIs(HundredthSheep x, int drive, int pays, int stay, int gap, int hour) {
        is("split(" + drive + ", 0)", x.split(drive, 0), pays);
        is("split(" + drive + ", 1)", x.split(drive, 1), stay);
        is("split(" + drive + ", 2)", x.split(drive, 2), gap);
        is("split(" + drive + ", 3)", x.split(drive, 3), hour);
    }

    private void splitToldLast() {
        sentence("are a DRIVE told last,");
        // in their hour: one stays (2), the other drive's is due (0), and only then the others go
        HundredthSheep x = told(moor(1, 1, 3) + "owners 2;start 0 is 1;" + drive(0, 0, 0, 0, 2) + ";" + drive(1, 0, 0, 0, 1) + ";");
        splitIs(x, 0, 0, 1, 0, 0);
        HundredthSheep twelve = told("moor gaps 1 days 1 each 2 due 1;owners 2;" + repeat(drive(1, 0, 0, 0, 2) + ";", 11)
            + drive(0, 0, 0, 0, 2) + ";");
        splitIs(twelve, 11, 1, 1, 0, 0);
    }

    // ---- V: orders

    private static final String GOERS = drive(0, 0, 1, 23, 2) + ";" + drive(1, 0, 1, 0, 1) + ";" + drive(2, 0, 0, 23, 1) + " lame;"
        + drive(3, 0, 1, 23, 3) + " lame;";

    private void orders() {
        sentence("ORDERS: all that go through that GAP on that DAY, whatever their HOURS, one DRIVE behind the other");
        String moor = moor(2, 2, 3) + "owners 4;";
        HundredthSheep x = told(moor + GOERS + drive(3, 1, 1, 5, 3) + ";" + drive(3, 0, 0, 5, 3) + ";");
        ordersAre(x, 4, 1, 1, 0);
        sentence("the COUNTER as it is ahead of them.");
        ordersAre(told(moor + "start 0 is 1;" + GOERS), 4, 1, 1, 0);
        HundredthSheep second = told(moor + "start 0 is 1;" + GOERS);
        rowOf(second, 0, 2);
        is("order(0, 0, 1, 0) by a start", second.order(0, 0, 1, 0), 1);
        HundredthSheep day = told(moor + GOERS + drive(3, 0, 0, 22, 1) + ";");
        rowOf(day, 0, 2);
        is("order(0, 0, 1, 0) by the day ahead", day.order(0, 0, 1, 0), 1);
        day.law(1, 1);
        is("order(0, 0, 1, 0), nights clear", day.order(0, 0, 1, 0), 0);
        sentence("by all: those at other GAPS on that DAY go ahead of these");
        HundredthSheep all = told(moor + "law all;" + GOERS + drive(3, 1, 1, 23, 1) + ";" + drive(3, 1, 1, 23, 1) + " lame;");
        rowOf(all, 0, 2);
        is("order(0, 0, 1, 0) by all", all.order(0, 0, 1, 0), 1);
        all.law(0, 0);
        is("order(0, 0, 1, 0) by gaps", all.order(0, 0, 1, 0), 0);
    }

    private void ordersAre(HundredthSheep x, int... many) {
        for (int owner = 0; owner < 4; owner++) {
            rowOf(x, 0, owner);
            is("orders(0, 0, 1) of " + owner, x.orders(0, 0, 1), many[owner]);
        }
        x.row(0, 0, 0);
        is("orders(0, 0, 1) of nobody", x.orders(0, 0, 1), 0);
    }

    private void ordersInFog() {
        sentence("(all else as it is;");
        // of four the second and fourth are missed, the third is due: D0 D1 D2 has D1 there, D0 D2 D1 has D2, all others D0
        HundredthSheep x = told(moor(1, 2, 2) + "owners 4;" + GOERS + "fog 0 on 1 misses 2;fog 0 on 0 misses 2;");
        ordersAre(x, 4, 1, 1, 0);
        // the same on the last day, from which on lambs are lambs: the third is D1's sheep, or D0's first
        HundredthSheep last = told(moor(1, 9, 3) + "owners 2;start 0 is 1;lambs from 8;" + drive(0, 0, 8, 0, 2) + ";"
            + drive(1, 0, 8, 0, 1) + " lambs 1;fog 0 on 8 misses 2;");
        for (int owner = 0; owner < 2; owner++) {
            rowOf(last, 0, owner);
            is("orders(0, 0, 8) of " + owner, last.orders(0, 0, 8), 1);
            is("order(0, 0, 8, 0) of " + owner, last.order(0, 0, 8, 0), 1 - owner);
        }
    }

    // ---- VI: draws

    private void draws() {
        sentence("DRAWS: x becomes (1103515245 x + 12345) modulo 2,147,483,648 (at first it is the seed); a draw of n: x / "
            + "65536, cut, modulo n.");
        // two that change places if the draw of 2 is 0; the first is due
        HundredthSheep x = told(moor(1, 1, 2) + "owners 2;start 0 is 1;" + drive(0, 0, 0, 0, 1) + ";" + drive(1, 0, 0, 0, 1) + ";");
        int[][] draw = {{0, 0}, {1, 0}, {2, 0}, {3, 1}, {4, 1}, {5, 1}, {1000000000, 0}, {1999999999, 1}, {2000000000, 0}};
        for (int[] d : draw) {
            is("mixed(" + d[0] + ", 0)", x.mixed(d[0], 0), d[1]);
            is("mixed(" + d[0] + ", 1)", x.mixed(d[0], 1), 1 - d[1]);
        }
    }

    private void places() {
        sentence("for each place from the last down to the second (1): a draw of that place and one more: these two change "
            + "places.");
        // seeds whose draws of 3 and 2 are 0 0, 2 0, 2 1, 1 1, 1 0 and 0 1, with the order that comes of them
        int[][] orders = {{0, 1, 2, 0}, {1, 1, 0, 2}, {2, 0, 1, 2}, {5, 0, 2, 1}, {1999999981, 2, 0, 1}, {1999999999, 2, 1, 0}};
        for (int start = 1; start <= 3; start++) {
            HundredthSheep x = told(moor(1, 1, 4) + "owners 3;start 0 is " + start + ";" + drive(0, 0, 0, 9, 1) + ";"
                + drive(1, 0, 0, 9, 1) + ";" + drive(2, 0, 0, 9, 1) + ";");
            for (int[] order : orders) {
                for (int owner = 0; owner < 3; owner++) {
                    // the start is such that the beast at place 3 less the start is due
                    is("mixed(" + order[0] + ", " + owner + ") from " + start, x.mixed(order[0], owner),
                        order[1 + 3 - start] == owner ? 1 : 0);
                }
            }
        }
    }

    private void flocks() {
        sentence("(GAPS and HOURS in order.)");
        // four flocks of two and one of a single beast that draws nothing; the first of each flock is due
        HundredthSheep x = told(moor(2, 2, 2) + "owners 5;start 0 is 1;start 1 is 1;" + drive(3, 0, 1, 0, 1) + ";" + drive(1, 1, 0, 0, 1)
            + ";" + drive(0, 0, 0, 0, 1) + ";" + drive(2, 0, 0, 1, 1) + ";" + drive(4, 0, 0, 1, 1) + ";" + drive(4, 0, 0, 0, 1) + ";"
            + drive(4, 0, 1, 0, 1) + ";" + drive(4, 1, 0, 0, 1) + ";" + drive(4, 1, 0, 23, 1) + " painted 3;");
        // that single one, at gap 1 at 23, is due too and its payer is 3
        int[][] draw = {{0, 0, 0, 0, 1}, {1, 0, 0, 1, 1}, {2, 0, 1, 1, 0}, {3, 1, 1, 1, 0}, {4, 1, 0, 1, 1}, {2000000000, 0, 1, 1, 1}};
        for (int[] d : draw) {
            int[] paid = {d[1], d[2], d[3], d[4] + 1, 4 - d[1] - d[2] - d[3] - d[4]};
            for (int owner = 0; owner < 5; owner++) {
                is("mixed(" + d[0] + ", " + owner + ")", x.mixed(d[0], owner), paid[owner]);
            }
        }
    }

    private void lambsInFlocks() {
        sentence("MIXED: all beasts that go through one GAP in one HOUR of a DAY, DRIVE by DRIVE as they would:");
        // a sheep and a lamb of 0, a sheep of 1; the first that is counted is due
        HundredthSheep x = told(moor(1, 1, 2) + "owners 2;start 0 is 1;law pass;" + drive(0, 0, 0, 0, 1) + " lambs 1;"
            + drive(1, 0, 0, 0, 1) + ";");
        // seeds by which they go as lamb, 1, 0; lamb, 0, 1; 0, lamb, 1; 0, 1, lamb; 1, 0, lamb; 1, lamb, 0
        int[][] first = {{0, 1, 0}, {1, 0, 0}, {2, 0, 0}, {5, 0, 0}, {1999999981, 1, 1}, {1999999999, 1, 1}};
        for (int[] f : first) {
            x.law(2, 1);
            is("mixed(" + f[0] + ", 1), lambs pass", x.mixed(f[0], 1), f[1]);
            is("mixed(" + f[0] + ", 0), lambs pass", x.mixed(f[0], 0), 1 - f[1]);
            x.law(2, 0);
            // the third is due too if lambs count
            is("mixed(" + f[0] + ", 0) and 1, lambs count", x.mixed(f[0], 0) + x.mixed(f[0], 1), 2);
        }
        is("mixed(0, 0), the lamb and the last", x.mixed(0, 0), 2);
        is("mixed(1, 0), the lamb", x.mixed(1, 0), 1);
        HundredthSheep day = told(moor(1, 2, 9) + "lambs from 1;" + drive(0, 0, 0, 0, 1) + " lambs 8;" + drive(0, 0, 1, 0, 1) + " lambs 7;");
        is("mixed(0, 0), ahead of the day", day.mixed(0, 0), 1);
        day.law(3, 10);
        is("mixed(0, 0), one too few", day.mixed(0, 0), 0);
    }

    public static void main(String[] args) throws IOException {
        MoorTests tests = new MoorTests();
        tests.orderOfGoing();
        tests.lameOnes();
        tests.lambsBehindSheep();
        tests.lambsThatAreCounted();
        tests.missedInFog();
        tests.counters();
        tests.eachOrMore();
        tests.whoPays();
        tests.nights();
        tests.bests();
        tests.splits();
        tests.splitToldLast();
        tests.orders();
        tests.ordersInFog();
        tests.draws();
        tests.places();
        tests.flocks();
        tests.lambsInFlocks();
        tests.close();
    }
}
