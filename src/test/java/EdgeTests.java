import java.io.IOException;
import java.util.ArrayList;
import java.util.List;
import java.util.function.ToIntFunction;

/** The bounds that the promises name, each sentence by itself: what is taken, what is refused, what stays then. */
public final class EdgeTests {
    private static final int LEAST = Integer.MIN_VALUE;
    private static final int MOST = Integer.MAX_VALUE;
    private static final String MOOR = Trial.MOOR;

    private final Trial trial;

    private EdgeTests(Trial trial) {
        this.trial = trial;
    }

    private static String repeat(String text, int times) {
        return text.repeat(times);
    }

    private static String moor(int gaps, int days, int each, int due) {
        return "moor gaps " + gaps + " days " + days + " each " + each + " due " + due + ";";
    }

    private static String drive(int owner, int gap, int day, int hour, int sheep) {
        return "drive " + owner + " gap " + gap + " on " + day + " at " + hour + " sheep " + sheep;
    }

    private void refused(String call, ToIntFunction<HundredthSheep> asked, int why) {
        Look.refused(trial, call, asked, why);
    }

    /** What has no moor to look at is refused. */
    private void needsMoor(String call, ToIntFunction<HundredthSheep> asked) {
        Look.refusedWithoutMoor(trial, call, asked);
        Look.looksOnly(trial, call, asked);
    }

    /** Wrong numbers of gaps, days, owners or drives of the object that is made: it has 3, 3, 3 and 5. */
    private static int[] notBelow(int many) {
        return new int[] {LEAST, -1, many, many + 1, MOST};
    }

    // ---- 1 to 5: the tape and its text

    private void newObject() {
        trial.sentence("`HundredthSheep()`: No MOOR.");
        HundredthSheep x = new HundredthSheep();
        for (int what = 0; what < 9; what++) {
            trial.is("count(" + what + ")", x.count(what), 0);
        }
        trial.is("dues()", x.dues(), -2);
        trial.is("worst()", x.worst(), -2);
        trial.is("rest()", x.rest(), -2);
        for (int k = 0; k < 3; k++) {
            trial.is("back(" + k + ")", x.back(k), -6);
        }
        for (int slot = 0; slot < 4; slot++) {
            trial.is("write(" + slot + ", 0, 0)", x.write(slot, 0, 0), -6);
        }
    }

    private void feeding() {
        trial.sentence("Twenty bytes come behind the TAPE, four of each number, the highest first: how many it has;");
        HundredthSheep x = new HundredthSheep();
        trial.is("feed", x.feed(0x6d6f6f72, 0x20676170, 0x73203120, 0x64617973, 0x20312065), 20);
        trial.is("feed", x.feed(0x61636820, 0x32206475, 0x6520313b, 0x6c617720, 0x616c6c3b), 40);
        trial.is("moor()", x.moor(), 2);
        trial.is("law(0, 0)", x.law(0, 0), 1);
        trial.is("feed behind a moor", x.feed(0x20202020, 0x20202020, 0x20202020, 0x20202020, 0x202020ff), 20);
        trial.is("moor() of a high byte", x.moor(), -4);
        trial.is("fault(1)", x.fault(1), 19);
        x.end(0);
        x.feed(LEAST, -1, MOST, -1, 0);
        trial.is("moor() of high bytes", x.moor(), -4);
        trial.is("fault(1)", x.fault(1), 0);
    }

    private void feedingTooMuch() {
        trial.sentence("NONE, and none come, if it would have more than 1,600.");
        HundredthSheep x = new HundredthSheep();
        for (int i = 1; i <= 80; i++) {
            trial.is("feed", x.feed(0, 0, 0, 0, 0), 20 * i);
        }
        trial.is("feed to a full one", x.feed(0, 0, 0, 0, 0), -1);
        trial.is("count(6)", x.count(6), 1600);
        int[] lengths = {1580, 1581, 1590, 1599, 1600};
        for (int length : lengths) {
            HundredthSheep y = new HundredthSheep();
            Trial.type(y, MOOR + repeat(" ", length - 32));
            trial.is("feed behind " + length, y.feed(-1, -1, -1, -1, -1), length == 1580 ? 1600 : -1);
            trial.is("count(6)", y.count(6), length == 1580 ? 1600 : length);
            trial.is("moor()", y.moor(), length == 1580 ? -4 : 1);
        }
    }

    private void ending() {
        trial.sentence("The TAPE has its first n bytes alone: n; NONE, and nothing happens, if it has not so many, or n is below 0.");
        HundredthSheep x = new HundredthSheep();
        trial.is("end(0) of an empty one", x.end(0), 0);
        trial.is("end(1) of an empty one", x.end(1), -1);
        trial.is("end(-1) of an empty one", x.end(-1), -1);
        Trial.type(x, MOOR + "????????");
        trial.is("end(41)", x.end(41), -1);
        trial.is("end(-1)", x.end(-1), -1);
        trial.is("end of the least", x.end(LEAST), -1);
        trial.is("end of the most", x.end(MOST), -1);
        trial.is("count(6)", x.count(6), 40);
        trial.is("end(40)", x.end(40), 40);
        trial.is("end(32)", x.end(32), 32);
        trial.is("end(33) of what it had", x.end(33), -1);
        trial.is("moor()", x.moor(), 1);
        trial.is("end(1) of one that was read", x.end(1), -1);
        Trial.type(x, MOOR + "law no");
        x.end(36);
        Trial.type(x, "all;");
        trial.is("moor() of what came behind", x.moor(), 2);
        HundredthSheep full = new HundredthSheep();
        Trial.type(full, repeat(" ", 1600));
        trial.is("end(1601) of a full one", full.end(1601), -1);
        trial.is("end(1600) of a full one", full.end(1600), 1600);
        trial.is("end(0) of a full one", full.end(0), 0);
        trial.is("count(6)", full.count(6), 0);
        refused("end(-1)", y -> y.end(-1), -1);
        refused("end of one more", y -> y.end(y.count(6) + 1), -1);
    }

    private void reading() {
        trial.sentence("The TAPE (empty then) is the MOOR (in place of another): how many LINES (0: there is none then).");
        HundredthSheep x = Look.made();
        x.end(0);
        Trial.type(x, MOOR + DRIVE + ";");
        trial.is("moor()", x.moor(), 2);
        int[] counts = {1, 1, 1, 1, 0, 2, 0, 0, 3};
        for (int what = 0; what < 9; what++) {
            trial.is("count(" + what + ")", x.count(what), counts[what]);
        }
        int[] laws = {0, 0, 0, 2, 1};
        for (int what = 0; what < 5; what++) {
            trial.is("law(" + what + ")", x.law(what, laws[what]), laws[what]);
        }
        trial.is("counter(0, 0, 0), no start of the other", x.counter(0, 0, 0), 1);
        trial.is("through(0, 0, 1)", x.through(0, 0, 1), 1);
        trial.is("moor() of an empty tape", x.moor(), 0);
        int[] none = {0, 0, 0, 0, 0, 0, 0, 0, 3};
        for (int what = 0; what < 9; what++) {
            trial.is("count(" + what + ") of none", x.count(what), none[what]);
        }
        trial.is("dues() of none", x.dues(), -2);
        trial.is("law(0, 0) of none", x.law(0, 0), -2);
        trial.is("drive(0, 0) of none", x.drive(0, 0), -2);
        trial.is("back(0), images stay", x.back(0), 0);
        trial.is("count(3), images stay", x.count(3), 5);
    }

    private static final String DRIVE = drive(0, 0, 0, 0, 1);

    private void nothingOfTheOther() {
        trial.sentence("(in place of another)");
        HundredthSheep x = trial.told(moor(2, 3, 9, 4) + "law all;law clear;law pass;owners 5;start 0 is 3;start 1 is 4;lambs from 2;"
            + drive(4, 1, 2, 9, 9) + " lambs 9 painted 3 lame;fog 0 on 0 misses 2;fog 1 on 2 misses 2;");
        Trial.type(x, moor(2, 3, 9, 4) + drive(0, 0, 0, 0, 4) + " lambs 1;" + drive(0, 1, 2, 0, 4) + ";");
        trial.is("moor()", x.moor(), 3);
        int[] first = {0, 0, 0, 0, 4, 1, 0, 0};
        int[] second = {0, 1, 2, 0, 4, 0, 0, 0};
        for (int what = 0; what < 8; what++) {
            trial.is("drive(0, " + what + ")", x.drive(0, what), first[what]);
            trial.is("drive(1, " + what + ")", x.drive(1, what), second[what]);
        }
        trial.is("through(0, 0, 1), no fog, lambs count", x.through(0, 0, 1), 5);
        trial.is("through(1, 2, 1), no fog", x.through(1, 2, 1), 4);
        trial.is("counter(0, 2, 23), no start, nights keep", x.counter(0, 2, 23), 5);
        trial.is("counter(1, 2, 23), by gaps", x.counter(1, 2, 23), 4);
        trial.is("count(7)", x.count(7), 0);
        trial.is("paid(1), one owner", x.paid(1), -2);
        fewerThanTheOther();
        ownersAgain();
    }

    private void fewerThanTheOther() {
        HundredthSheep x = trial.told(moor(1, 1, 2, 7) + "owners 3;" + repeat(drive(2, 0, 0, 0, 9) + " lambs 9 lame;", 3));
        Trial.type(x, moor(1, 1, 2, 7) + DRIVE + ";");
        x.moor();
        x.row(0, 0, 0);
        int[] seen = {x.count(3), x.through(0, 0, 0), x.through(0, 0, 1), x.dues(), x.left(0), x.mixed(0, 0), x.all(0), x.orders(0, 0, 0),
            x.harm(0), x.ewe(0, 0, 0, 0), x.free(0), x.drive(1, 0), x.goes(1), x.best(1, 0)};
        int[] due = {1, 1, 1, 0, 1, 0, 0, 1, 0, 0, 2, -2, -2, -2};
        for (int i = 0; i < seen.length; i++) {
            trial.is("answer " + i + " of a moor of fewer drives", seen[i], due[i]);
        }
    }

    private void ownersAgain() {
        HundredthSheep x = trial.told(MOOR + "owners 5;" + drive(4, 0, 0, 0, 1) + ";");
        Trial.type(x, MOOR + "owners 2;");
        trial.is("moor() with owners again", x.moor(), 2);
        trial.is("count(2)", x.count(2), 2);
        Trial.type(x, MOOR + "owners 3;?");
        trial.is("moor() with owners and a fault", x.moor(), -4);
        trial.is("count(2)", x.count(2), 2);
        x.end(0);
        Trial.type(x, MOOR + "owners 4;");
        trial.is("moor() with owners behind a fault", x.moor(), 2);
        trial.is("count(2)", x.count(2), 4);
        Trial.type(x, MOOR);
        trial.is("moor() without owners", x.moor(), 1);
        trial.is("count(2), 1 without", x.count(2), 1);
    }

    private void readingFaults() {
        trial.sentence("-4: a FAULT (all stays).");
        String[] faults = {"?", "moor", "owners 2;", "drive 9"};
        int[] kinds = {1, 1, 2, 2};
        for (int i = 0; i < faults.length; i++) {
            String behind = faults[i];
            HundredthSheep untouched = Look.made();
            Trial.type(untouched, behind);
            HundredthSheep x = Look.made();
            Trial.type(x, behind);
            trial.is("moor() with " + behind, x.moor(), -4);
            trial.is("fault(0) with " + behind, x.fault(0), kinds[i]);
            trial.is("count(6), the tape too", x.count(6), untouched.count(6));
            // the told fault is the one thing that is another now: both are made the same
            trial.is("moor() of the other", untouched.moor(), -4);
            trial.same("behind a fault", Look.at(x), Look.at(untouched));
        }
        HundredthSheep x = Look.made();
        String ahead = Look.at(Look.made());
        int length = x.count(6);
        Trial.type(x, "?");
        trial.is("moor()", x.moor(), -4);
        trial.is("end at the fault", x.end(x.fault(1)), length);
        String behind = Look.at(x);
        trial.same("behind a fault that was cut off", withoutFaults(behind), withoutFaults(ahead));
    }

    private static String withoutFaults(String seen) {
        return seen.replaceAll("fault [^\n]*", "");
    }

    private void faults() {
        trial.sentence("Of the latest moor(), what 0: its FAULT, 0 without, 1: its place (NONE without). NONE for another what, and ahead of any (what 1).");
        HundredthSheep x = new HundredthSheep();
        faultIs("ahead of any", x, 0, -1);
        x.moor();
        faultIs("of nothing", x, 0, -1);
        String[] texts = {"?", MOOR + "owners 6;", MOOR + repeat("fog 0 on 0 misses 2;", 9)};
        int[] places = {0, 39, 192};
        for (int i = 0; i < 3; i++) {
            Trial.type(x, texts[i]);
            x.moor();
            faultIs("of a fault", x, i + 1, places[i]);
            x.end(0);
            faultIs("behind end", x, i + 1, places[i]);
        }
        Trial.type(x, MOOR);
        faultIs("ahead of the next", x, 3, 192);
        x.moor();
        faultIs("of one without", x, 0, -1);
        Trial.type(x, "?");
        x.moor();
        x.end(0);
        x.moor();
        faultIs("of nothing behind a fault", x, 0, -1);
    }

    private void faultIs(String when, HundredthSheep x, int fault, int place) {
        trial.is("fault(0) " + when, x.fault(0), fault);
        trial.is("fault(1) " + when, x.fault(1), place);
        trial.is("fault(2) " + when, x.fault(2), -1);
        trial.is("fault(-1) " + when, x.fault(-1), -1);
        trial.is("fault of the least " + when, x.fault(LEAST), -1);
        trial.is("fault of the most " + when, x.fault(MOST), -1);
    }

    // ---- 6 to 9: drives and laws

    private void drives() {
        trial.sentence("Of a DRIVE, what 0: owner, 1: GAP, 2: DAY, 3: HOUR told, 4: sheep, 5: lambs, 6: who pays (III), 7: 1 if it is lame, else 0. -2: there are none such.");
        int[][] told = {{0, 1, 0, 7, 9, 4, 0, 0}, {1, 2, 0, 9, 12, 0, 2, 0}, {2, 0, 1, 23, 15, 3, 2, 1}, {0, 2, 2, 23, 5, 0, 0, 1},
            {1, 0, 2, 0, 1, 0, 1, 0}};
        HundredthSheep x = Look.made();
        for (int i = 0; i < 5; i++) {
            for (int what = 0; what < 8; what++) {
                trial.is("drive(" + i + ", " + what + ")", x.drive(i, what), told[i][what]);
            }
        }
        for (int i : notBelow(5)) {
            refused("drive(" + i + ", 0)", y -> y.drive(i, 0), -2);
            refused("drive(" + i + ", 7)", y -> y.drive(i, 7), -2);
        }
        for (int what : notBelow(8)) {
            refused("drive(0, " + what + ")", y -> y.drive(0, what), -2);
        }
        needsMoor("drive(0, 0)", y -> y.drive(0, 0));
        trial.sentence("When a DRIVE goes through (II): 24 times the DAY and the HOUR; NONE: never. -2: there is none such.");
        int[] goes = {7, 9, 48, -1, 48};
        for (int i = 0; i < 5; i++) {
            trial.is("goes(" + i + ")", x.goes(i), goes[i]);
        }
        for (int i : notBelow(5)) {
            refused("goes(" + i + ")", y -> y.goes(i), -2);
        }
        needsMoor("goes(3)", y -> y.goes(3));
        HundredthSheep edges = trial.told(moor(1, 9, 2, 1) + DRIVE + ";" + drive(0, 0, 8, 23, 1) + ";" + drive(0, 0, 8, 22, 1) + " lame;");
        trial.is("goes at the first hour", edges.goes(0), 0);
        trial.is("goes at the last hour", edges.goes(1), 215);
        trial.is("goes late at the last hour", edges.goes(2), 215);
    }

    private void laws() {
        trial.sentence("The LAW (what 0: 0 by gaps, 1 by all; 1: 0 nights keep, 1 clear; 2: 0 lambs count, 1 pass; 3: each, 2 .. 100; 4: due, 0 .. 999) is n from now on: which it was. -2: there are none such, no MOOR.");
        int[] was = {0, 1, 0, 6, 5};
        int[] least = {0, 0, 0, 2, 0};
        int[] most = {1, 1, 1, 100, 999};
        HundredthSheep x = Look.made();
        for (int what = 0; what < 5; what++) {
            int law = what;
            trial.is("law(" + what + ") to the least", x.law(what, least[what]), was[what]);
            trial.is("law(" + what + ") to the most", x.law(what, most[what]), least[what]);
            trial.is("law(" + what + ") as it was", x.law(what, was[what]), most[what]);
            refused("law(" + what + ") below", y -> y.law(law, least[law] - 1), -2);
            refused("law(" + what + ") above", y -> y.law(law, most[law] + 1), -2);
            refused("law(" + what + ") of the least", y -> y.law(law, LEAST), -2);
            refused("law(" + what + ") of the most", y -> y.law(law, MOST), -2);
            Look.refusedWithoutMoor(trial, "law(" + what + ")", y -> y.law(law, least[law]));
        }
        for (int what : notBelow(5)) {
            refused("law(" + what + ", 2)", y -> y.law(what, 2), -2);
            refused("law(" + what + ", 0)", y -> y.law(what, 0), -2);
        }
        lawsAtWork();
    }

    private void lawsAtWork() {
        // each 2 and 100, due 0 and 999 by what is paid; by all, by nights and by lambs by the counter
        HundredthSheep x = trial.told(moor(2, 2, 50, 7) + drive(0, 0, 0, 0, 99) + " lambs 99;" + drive(0, 1, 1, 0, 3) + ";");
        trial.is("paid(0)", x.paid(0), 21);
        x.law(3, 2);
        trial.is("paid(0) by each 2", x.paid(0), 7 * 100);
        x.law(3, 100);
        trial.is("paid(0) by each 100", x.paid(0), 7);
        x.law(4, 999);
        trial.is("paid(0) by due 999", x.paid(0), 999);
        x.law(4, 0);
        trial.is("paid(0) by due 0", x.paid(0), 0);
        trial.is("dues() by due 0", x.dues(), 1);
        trial.is("counter(1, 1, 0) by gaps", x.counter(1, 1, 0), 3);
        x.law(0, 1);
        trial.is("counter(1, 1, 0) by all", x.counter(1, 1, 0), 1);
        x.law(2, 1);
        trial.is("counter(1, 1, 0), lambs pass", x.counter(1, 1, 0), 2);
        x.law(1, 1);
        trial.is("counter(1, 1, 0), nights clear", x.counter(1, 1, 0), 3);
    }

    private void setting() {
        trial.sentence("A DRIVE goes to another GAP and HOUR from now on: 100 times the GAP that it went to and the HOUR told. -2: there are none such.");
        HundredthSheep x = trial.told(moor(4, 2, 2, 1) + DRIVE + ";" + drive(0, 3, 0, 23, 1) + " lame;");
        trial.is("sets(0, 3, 23)", x.sets(0, 3, 23), 0);
        trial.is("goes(0)", x.goes(0), 23);
        trial.is("sets(0, 0, 0)", x.sets(0, 0, 0), 323);
        trial.is("goes(0)", x.goes(0), 0);
        trial.is("sets(1, 0, 0)", x.sets(1, 0, 0), 323);
        trial.is("goes(1), lame still", x.goes(1), 1);
        trial.is("sets(1, 3, 23)", x.sets(1, 3, 23), 0);
        trial.is("goes(1), lame still", x.goes(1), 24);
        trial.is("drive(1, 2), its day stays", x.drive(1, 2), 0);
        for (int i : notBelow(5)) {
            refused("sets(" + i + ", 0, 0)", y -> y.sets(i, 0, 0), -2);
        }
        for (int gap : notBelow(3)) {
            refused("sets(0, " + gap + ", 0)", y -> y.sets(0, gap, 0), -2);
        }
        for (int hour : notBelow(24)) {
            refused("sets(0, 0, " + hour + ")", y -> y.sets(0, 0, hour), -2);
        }
        Look.refusedWithoutMoor(trial, "sets(0, 0, 0)", y -> y.sets(0, 0, 0));
    }

    // ---- 10 to 17: what is counted and who pays

    private void counters() {
        trial.sentence("COUNTER of a GAP (by all: the one that all have) behind an HOUR of a DAY. -2: there are none such.");
        HundredthSheep x = trial.told(moor(4, 9, 100, 1) + drive(0, 0, 0, 0, 1) + ";" + drive(0, 3, 8, 23, 2) + ";" + drive(0, 3, 8, 22, 4) + ";");
        trial.is("counter(0, 0, 0)", x.counter(0, 0, 0), 1);
        trial.is("counter(3, 0, 0)", x.counter(3, 0, 0), 0);
        trial.is("counter(3, 8, 21)", x.counter(3, 8, 21), 0);
        trial.is("counter(3, 8, 22)", x.counter(3, 8, 22), 4);
        trial.is("counter(3, 8, 23)", x.counter(3, 8, 23), 6);
        x.law(0, 1);
        trial.is("counter(1, 8, 23) by all", x.counter(1, 8, 23), 7);
        for (int gap : notBelow(3)) {
            refused("counter(" + gap + ", 0, 0)", y -> y.counter(gap, 0, 0), -2);
            refused("through(" + gap + ", 0, 0)", y -> y.through(gap, 0, 0), -2);
            Look.refused(trial, "counter(" + gap + ", 0, 0) by all", y -> y.law(0, 1), y -> y.counter(gap, 0, 0), -2);
        }
        for (int day : notBelow(3)) {
            refused("counter(0, " + day + ", 0)", y -> y.counter(0, day, 0), -2);
            refused("through(0, " + day + ", 0)", y -> y.through(0, day, 0), -2);
        }
        for (int hour : notBelow(24)) {
            refused("counter(0, 0, " + hour + ")", y -> y.counter(0, 0, hour), -2);
        }
        needsMoor("counter(0, 0, 0)", y -> y.counter(0, 0, 0));
        needsMoor("counter(2, 2, 23)", y -> y.counter(2, 2, 23));
    }

    private void through() {
        trial.sentence("How many beasts go through a GAP on a DAY (what 0), how many of them are counted (1). -2: there are none such.");
        for (int what : notBelow(2)) {
            refused("through(0, 0, " + what + ")", y -> y.through(0, 0, what), -2);
        }
        needsMoor("through(2, 2, 1)", y -> y.through(2, 2, 1));
        HundredthSheep full = full();
        trial.is("through(0, 0, 0) of the most", full.through(0, 0, 0), 12 * 198);
        trial.is("through(0, 0, 1) of the most", full.through(0, 0, 1), 12 * 198);
        trial.is("through(0, 0, 0) of none", trial.told(MOOR).through(0, 0, 0), 0);
        trial.is("through(0, 0, 1) of none", trial.told(MOOR).through(0, 0, 1), 0);
        HundredthSheep fog = trial.told(moor(1, 1, 2, 1) + drive(0, 0, 0, 0, 1) + ";" + "fog 0 on 0 misses 2;");
        trial.is("through(0, 0, 1) of one in a fog", fog.through(0, 0, 1), 1);
    }

    /** All that can go through one gap, by the least each and the greatest due. */
    private HundredthSheep full() {
        return trial.told(moor(1, 1, 2, 999) + "owners 5;" + repeat(drive(4, 0, 0, 23, 99) + " lambs 99;", 12));
    }

    private void dues() {
        trial.sentence("How many DUES there are. -2: there is no MOOR.");
        HundredthSheep full = full();
        trial.is("dues() of the most", full.dues(), 6 * 198);
        trial.is("dues() of none", trial.told(MOOR).dues(), 0);
        trial.is("dues() of one too few", trial.told(MOOR + DRIVE + ";").dues(), 0);
        needsMoor("dues()", y -> y.dues());
        trial.sentence("NONE: there is none such; -2: there is no such what, no MOOR.");
        int[] last = {0, 23, 0, 4, 11, 197};
        int[] first = {0, 23, 0, 4, 0, 1};
        for (int what = 0; what < 6; what++) {
            trial.is("due(0, " + what + ")", full.due(0, what), first[what]);
            trial.is("due(1187, " + what + ")", full.due(1187, what), last[what]);
            trial.is("due(1188, " + what + ")", full.due(1188, what), -1);
            trial.is("due(-1, " + what + ")", full.due(-1, what), -1);
            int asked = what;
            refused("due of the least", y -> y.due(LEAST, asked), -1);
            refused("due of the most", y -> y.due(MOST, asked), -1);
            refused("due behind the last", y -> y.due(y.dues(), asked), -1);
            Look.refusedWithoutMoor(trial, "due(0, " + what + ")", y -> y.due(0, asked));
            trial.is("due(0, " + what + ") of none", trial.told(MOOR).due(0, what), -1);
        }
        for (int what : notBelow(6)) {
            refused("due(0, " + what + ")", y -> y.due(0, what), -2);
            refused("due(-1, " + what + ")", y -> y.due(-1, what), -2);
        }
        Look.looksOnly(trial, "due(0, 5)", y -> y.due(0, 5));
    }

    private void paid() {
        trial.sentence("What an owner pays in all. -2: there is none such.");
        HundredthSheep full = full();
        trial.is("paid(4) of the most", full.paid(4), 6 * 198 * 999);
        trial.is("paid(0) of nothing", full.paid(0), 0);
        for (int owner : notBelow(3)) {
            refused("paid(" + owner + ")", y -> y.paid(owner), -2);
            refused("pays(" + owner + ", 0)", y -> y.pays(owner, 0), -2);
        }
        needsMoor("paid(0)", y -> y.paid(0));
        needsMoor("paid(2)", y -> y.paid(2));
        trial.sentence("How many DUES he pays on a DAY. -2: there are none such.");
        trial.is("pays(4, 0) of the most", full.pays(4, 0), 6 * 198);
        for (int day : notBelow(3)) {
            refused("pays(0, " + day + ")", y -> y.pays(0, day), -2);
        }
        needsMoor("pays(2, 2)", y -> y.pays(2, 2));
        HundredthSheep x = trial.told(moor(1, 3, 2, 0) + "owners 2;" + drive(0, 0, 0, 23, 2) + ";" + drive(1, 0, 1, 0, 4) + " painted 0;"
            + drive(0, 0, 1, 23, 6) + " lame;" + drive(0, 0, 2, 23, 8) + " lame;");
        int[] pays = {1, 2, 3};
        for (int day = 0; day < 3; day++) {
            trial.is("pays(0, " + day + "), though due is 0", x.pays(0, day), pays[day]);
            trial.is("pays(1, " + day + ")", x.pays(1, day), 0);
        }
    }

    private void worst() {
        trial.sentence("Who pays most, the first of several; NONE: nobody pays a DUE. -2: there is no MOOR.");
        trial.is("worst() of none", trial.told(MOOR).worst(), -1);
        trial.is("worst() of one too few", trial.told(MOOR + DRIVE + ";").worst(), -1);
        String five = moor(1, 1, 2, 3) + "owners 5;";
        trial.is("worst(), the last", full().worst(), 4);
        trial.is("worst(), the first", trial.told(five + drive(0, 0, 0, 0, 2) + ";").worst(), 0);
        String all = five;
        for (int owner = 4; owner >= 1; owner--) {
            all += drive(owner, 0, 0, 4 - owner, 2) + ";";
        }
        trial.is("worst() of several", trial.told(all).worst(), 1);
        trial.is("worst() of one more", trial.told(all + drive(3, 0, 0, 23, 2) + ";").worst(), 3);
        trial.is("worst() of whom he is painted by", trial.told(five + drive(0, 0, 0, 0, 2) + " painted 4;").worst(), 4);
        needsMoor("worst()", y -> y.worst());
    }

    private void left() {
        trial.sentence("How many more are to be counted at a GAP at the end till one is due (1 .. each). -2: there is none such.");
        int[] every = {2, 3, 100};
        for (int each : every) {
            HundredthSheep x = trial.told(moor(2, 1, each, 1) + "start 1 is " + (each - 1) + ";");
            trial.is("left(0), each " + each, x.left(0), each);
            trial.is("left(1), each " + each, x.left(1), 1);
            x.law(0, 1);
            trial.is("left(1) by all", x.left(1), each);
        }
        HundredthSheep late = trial.told(moor(1, 9, 9, 1) + "start 0 is 3;" + drive(0, 0, 8, 23, 4) + ";");
        trial.is("left(0) behind the last hour", late.left(0), 2);
        late.law(1, 1);
        trial.is("left(0) behind the last night that clears", late.left(0), 5);
        trial.is("ring(0, 5, 1) behind the last night that clears", late.ring(0, 5, 1), 1);
        HundredthSheep over = trial.told(moor(1, 1, 100, 1) + "start 0 is 50;");
        int[][] left = {{100, 50}, {52, 2}, {51, 1}, {50, 1}, {49, 1}, {2, 1}};
        for (int[] l : left) {
            over.law(3, l[0]);
            trial.is("left(0) of 50, each " + l[0], over.left(0), l[1]);
        }
        for (int gap : notBelow(3)) {
            refused("left(" + gap + ")", y -> y.left(gap), -2);
        }
        needsMoor("left(0)", y -> y.left(0));
        needsMoor("left(2)", y -> y.left(2));
    }

    // ---- 18 to 22: where drives best go

    private void best() {
        trial.sentence("BEST (IV) for a DRIVE, what 0: what its owner pays in all then, 1: GAP, 2: HOUR. -2: there are none such.");
        for (int i : notBelow(5)) {
            refused("best(" + i + ", 0)", y -> y.best(i, 0), -2);
        }
        for (int what : notBelow(3)) {
            refused("best(0, " + what + ")", y -> y.best(0, what), -2);
        }
        for (int what = 0; what < 3; what++) {
            int asked = what;
            needsMoor("best(0, " + what + ")", y -> y.best(0, asked));
            needsMoor("best(4, " + what + ")", y -> y.best(4, asked));
        }
        trial.is("best(11, 0) of the most", full().best(11, 0), 6 * 198 * 999);
        trial.is("best(0, 0) of one that never goes", trial.told(MOOR + drive(0, 0, 0, 23, 9) + " lame;").best(0, 2), 23);
        trial.sentence("SPLIT (IV) of a DRIVE, what 0: what its owner pays then, 1: how many sheep stay, 2: GAP of the others, 3: their HOUR. NONE: it has but one sheep; -2: there are none such.");
        for (int i : notBelow(5)) {
            refused("split(" + i + ", 0)", y -> y.split(i, 0), -2);
        }
        for (int what : notBelow(4)) {
            refused("split(0, " + what + ")", y -> y.split(0, what), -2);
            refused("split(4, " + what + ")", y -> y.split(4, what), -2);
        }
        for (int what = 0; what < 4; what++) {
            int asked = what;
            refused("split(4, " + what + ") of one sheep", y -> y.split(4, asked), -1);
            needsMoor("split(0, " + what + ")", y -> y.split(0, asked));
            HundredthSheep one = trial.told(MOOR + DRIVE + " lambs 99;" + drive(0, 0, 0, 5, 2) + ";");
            trial.is("split(0, " + what + ") of one sheep and lambs", one.split(0, what), -1);
            trial.is("split(1, 1) of two sheep", one.split(1, 1), 1);
        }
        trial.is("split(11, 0) of the most", full().split(11, 0), 6 * 198 * 999);
    }

    private void rest() {
        trial.sentence("REST: the first DRIVE by whose BEST its owner pays less than now; NONE: none, all rest. -2: there is no MOOR.");
        trial.is("rest() without drives", trial.told(MOOR).rest(), -1);
        trial.is("rest() of one that pays nothing", trial.told(MOOR + DRIVE + ";").rest(), -1);
        trial.is("rest() of one that pays by all that is", full().rest(), -1);
        String free = repeat("drive 1 gap 0 on 0 at 0 sheep 2;", 11);
        HundredthSheep last = trial.told("moor gaps 2 days 1 each 2 due 1;owners 2;start 1 is 1;" + free + "drive 0 gap 1 on 0 at 0 sheep 1;");
        trial.is("rest(), the last", last.rest(), 11);
        last.law(4, 0);
        trial.is("rest(), due 0", last.rest(), -1);
        HundredthSheep first = trial.told("moor gaps 2 days 1 each 2 due 1;start 1 is 1;drive 0 gap 1 on 0 at 0 sheep 1;"
            + "drive 0 gap 1 on 0 at 0 sheep 2;");
        trial.is("rest(), the first", first.rest(), 0);
        needsMoor("rest()", y -> y.rest());
    }

    // found by trying: all rest behind the 30th, the 31st, never
    private static final String THIRTY = "moor gaps 1 days 1 each 3 due 1;owners 2;drive 0 gap 0 on 0 at 0 sheep 5;"
        + "drive 0 gap 0 on 0 at 0 sheep 4;drive 1 gap 0 on 0 at 3 sheep 2;drive 1 gap 0 on 0 at 3 sheep 4;"
        + "drive 1 gap 0 on 0 at 3 sheep 2;drive 0 gap 0 on 0 at 2 sheep 5;";
    private static final String THIRTY_ONE = "moor gaps 1 days 1 each 5 due 1;owners 3;drive 2 gap 0 on 0 at 3 sheep 4;"
        + "drive 0 gap 0 on 0 at 3 sheep 6;drive 1 gap 0 on 0 at 0 sheep 2;drive 1 gap 0 on 0 at 2 sheep 4;"
        + "drive 0 gap 0 on 0 at 0 sheep 1;drive 1 gap 0 on 0 at 1 sheep 1;";
    private static final String NEVER = "moor gaps 1 days 1 each 3 due 1;owners 3;drive 0 gap 0 on 0 at 3 sheep 1;"
        + "drive 0 gap 0 on 0 at 3 sheep 5;drive 1 gap 0 on 0 at 0 sheep 1;";

    private static final String RIVALS = "moor gaps 2 days 1 each 10 due 5;owners 2;drive 0 gap 0 on 0 at 8 sheep 9;"
        + "drive 1 gap 0 on 0 at 9 sheep 3;";
    private static final String FOUR = "moor gaps 2 days 1 each 5 due 1;owners 3;drive 1 gap 0 on 0 at 3 sheep 4;"
        + "drive 2 gap 1 on 0 at 2 sheep 4;drive 0 gap 0 on 0 at 3 sheep 3;drive 2 gap 1 on 0 at 1 sheep 1;"
        + "drive 2 gap 1 on 0 at 1 sheep 3;";
    private static final String NEVER_AT_TWO_GAPS = "moor gaps 2 days 1 each 4 due 1;owners 2;drive 0 gap 0 on 0 at 1 sheep 5;"
        + "drive 1 gap 1 on 0 at 0 sheep 2;drive 1 gap 0 on 0 at 3 sheep 5;drive 1 gap 1 on 0 at 3 sheep 6;"
        + "drive 0 gap 1 on 0 at 1 sheep 6;";

    private void rests() {
        trial.sentence("n (0 .. 30) times (in thought) that DRIVE goes as is BEST: how many times till all rest; NONE: they do not. -2: there is none such, no MOOR.");
        restsAt(THIRTY, 30);
        restsAt(THIRTY_ONE, 31);
        restsAt(NEVER, 1000);
        restsAt(MOOR, 0);
        restsAt(RIVALS, 3);
        restsAt(FOUR, 4);
        restsAt(NEVER_AT_TWO_GAPS, 1000);
        for (int n : notBelow(31)) {
            refused("rests(" + n + ")", y -> y.rests(n), -2);
            refused("sent(0, " + n + ")", y -> y.sent(0, n), -2);
            Look.refusedWithoutMoor(trial, "rests(" + n + ")", y -> y.rests(n));
        }
        needsMoor("rests(0)", y -> y.rests(0));
        needsMoor("rests(30)", y -> y.rests(30));
        trial.sentence("100 times the GAP and the HOUR of a DRIVE behind these (or behind all n). -2 likewise, no such DRIVE.");
        for (int i : notBelow(5)) {
            refused("sent(" + i + ", 0)", y -> y.sent(i, 0), -2);
            refused("sent(" + i + ", 30)", y -> y.sent(i, 30), -2);
        }
        needsMoor("sent(0, 0)", y -> y.sent(0, 0));
        needsMoor("sent(4, 30)", y -> y.sent(4, 30));
        HundredthSheep none = trial.told(MOOR);
        trial.is("sent(0, 0) without drives", none.sent(0, 0), -2);
        HundredthSheep still = trial.told(moor(4, 1, 100, 1) + drive(0, 3, 0, 23, 1) + ";");
        trial.is("sent(0, 30) of one that rests", still.sent(0, 30), 323);
    }

    /** What is thought of n times is what comes of it if it is done. */
    private void restsAt(String text, int last) {
        HundredthSheep thought = trial.told(text);
        HundredthSheep done = trial.told(text);
        for (int n = 0; n <= 30; n++) {
            trial.is("rests(" + n + ") of " + last, thought.rests(n), n < last ? -1 : last);
            trial.is("rest() behind " + n, done.rest() == -1 ? 1 : 0, n < last ? 0 : 1);
            for (int i = 0; i < done.count(3); i++) {
                trial.is("sent(" + i + ", " + n + ")", thought.sent(i, n), 100 * done.drive(i, 1) + done.drive(i, 3));
            }
            int moves = done.rest();
            if (moves != -1) {
                done.sets(moves, done.best(moves, 1), done.best(moves, 2));
            }
        }
    }

    // ---- 23 to 27: harm, a ewe, rings

    private void harm() {
        trial.sentence("HARM: how much more all others than its owner pay in all by a DRIVE than without it (below 0: less). -2: there is none such.");
        for (int i : notBelow(5)) {
            refused("harm(" + i + ")", y -> y.harm(i), -2);
        }
        needsMoor("harm(0)", y -> y.harm(0));
        needsMoor("harm(4)", y -> y.harm(4));
        HundredthSheep x = trial.told(moor(1, 1, 2, 999) + "owners 3;" + drive(0, 0, 0, 0, 1) + ";" + drive(1, 0, 0, 1, 1) + ";"
            + drive(2, 0, 0, 2, 1) + ";" + drive(2, 0, 0, 3, 2) + " painted 0;");
        // 1 is due, then the first of the painted: without 0 it is 2 and the second of the painted
        trial.is("harm(0)", x.harm(0), 999 - 999);
        // without 1 it is 2, and no other number is
        trial.is("harm(1), less", x.harm(1), -999);
        trial.is("harm(3), painted", x.harm(3), 999);
        HundredthSheep lambs = trial.told(moor(1, 1, 2, 7) + "owners 2;" + drive(0, 0, 0, 0, 2) + " lambs 1;" + drive(1, 0, 0, 1, 1) + ";");
        trial.is("harm(0), its lambs too", lambs.harm(0), 7);
        trial.is("harm(0) of the only one", trial.told(MOOR + drive(0, 0, 0, 0, 9) + ";").harm(0), 0);
    }

    private void ewe() {
        trial.sentence("A LAME EWE: how much more all others pay in all, if one sheep more of an owner goes through a GAP on a DAY at an HOUR, as a DRIVE told last. -2: there are none such.");
        for (int wrong : notBelow(3)) {
            refused("ewe(" + wrong + ", 0, 0, 0)", y -> y.ewe(wrong, 0, 0, 0), -2);
            refused("ewe(0, " + wrong + ", 0, 0)", y -> y.ewe(0, wrong, 0, 0), -2);
            refused("ewe(0, 0, " + wrong + ", 0)", y -> y.ewe(0, 0, wrong, 0), -2);
        }
        for (int hour : notBelow(24)) {
            refused("ewe(0, 0, 0, " + hour + ")", y -> y.ewe(0, 0, 0, hour), -2);
        }
        needsMoor("ewe(0, 0, 0, 0)", y -> y.ewe(0, 0, 0, 0));
        needsMoor("ewe(2, 2, 2, 23)", y -> y.ewe(2, 2, 2, 23));
        // the other's two come to be one due if the ewe goes ahead of one of them; in his own hour it goes behind
        HundredthSheep x = trial.told(moor(4, 9, 2, 999) + "owners 2;start 3 is 1;" + drive(1, 3, 8, 5, 1) + ";" + drive(1, 3, 8, 23, 1) + ";");
        trial.is("paid(1)", x.paid(1), 999);
        trial.is("ewe(0, 3, 8, 4), less", x.ewe(0, 3, 8, 4), 0);
        trial.is("ewe(0, 3, 8, 5), behind the first", x.ewe(0, 3, 8, 5), 999);
        trial.is("ewe(0, 3, 8, 23), behind all", x.ewe(0, 3, 8, 23), 0);
        trial.is("ewe(1, 3, 8, 5), his own", x.ewe(1, 3, 8, 5), 0);
        // a split that was thought of, with its lambs and lame, is not the ewe
        HundredthSheep split = trial.told(moor(1, 1, 5, 7) + "owners 2;" + drive(0, 0, 0, 5, 2) + " lambs 1 lame;" + drive(1, 0, 0, 9, 1) + ";");
        trial.is("split(0, 0)", split.split(0, 0), 0);
        trial.is("ewe(0, 0, 0, 8) behind a split", split.ewe(0, 0, 0, 8), 7);
        HundredthSheep twelve = trial.told(moor(1, 1, 2, 1) + "owners 2;" + repeat(drive(1, 0, 0, 0, 1) + ";", 12));
        trial.is("ewe(0, 0, 0, 0), told last of thirteen", twelve.ewe(0, 0, 0, 0), 0);
        twelve.sets(11, 0, 1);
        trial.is("ewe(0, 0, 0, 0), ahead of one", twelve.ewe(0, 0, 0, 0), -1);
    }

    private void waits() {
        trial.sentence("Its best HOUR of that DAY (what 0; the first of several), how much more that is (1). -2 likewise, no such what.");
        for (int wrong : notBelow(3)) {
            refused("waits(" + wrong + ", 0, 0, 0)", y -> y.waits(wrong, 0, 0, 0), -2);
            refused("waits(0, " + wrong + ", 0, 0)", y -> y.waits(0, wrong, 0, 0), -2);
            refused("waits(0, 0, " + wrong + ", 0)", y -> y.waits(0, 0, wrong, 0), -2);
        }
        for (int what : notBelow(2)) {
            refused("waits(0, 0, 0, " + what + ")", y -> y.waits(0, 0, 0, what), -2);
        }
        needsMoor("waits(0, 0, 0, 0)", y -> y.waits(0, 0, 0, 0));
        needsMoor("waits(2, 2, 2, 1)", y -> y.waits(2, 2, 2, 1));
        HundredthSheep none = trial.told(MOOR);
        trial.is("waits(0, 0, 0, 0), all the same", none.waits(0, 0, 0, 0), 0);
        trial.is("waits(0, 0, 0, 1), all the same", none.waits(0, 0, 0, 1), 0);
        // ahead of the other it takes his due from him, so the first hour behind is best: up to the last
        HundredthSheep x = trial.told(moor(1, 1, 2, 7) + "owners 2;start 0 is 1;" + drive(1, 0, 0, 22, 1) + ";");
        int[][] best = {{22, 22}, {23, 23}, {0, 0}, {1, 1}};
        for (int[] b : best) {
            x.sets(0, 0, b[0]);
            trial.is("waits(0, 0, 0, 0) behind " + b[0], x.waits(0, 0, 0, 0), b[1]);
            trial.is("waits(0, 0, 0, 1) behind " + b[0], x.waits(0, 0, 0, 1), 0);
        }
        // between the two the other pays one more
        HundredthSheep y = trial.told(moor(1, 1, 2, 7) + "owners 2;start 0 is 1;" + drive(1, 0, 0, 22, 1) + ";" + drive(1, 0, 0, 23, 1) + ";");
        trial.is("waits(0, 0, 0, 0), between", y.waits(0, 0, 0, 0), 22);
        trial.is("waits(0, 0, 0, 1), between", y.waits(0, 0, 0, 1), 7);
        trial.is("waits(1, 0, 0, 0), his own", y.waits(1, 0, 0, 0), 0);
        // on the next day it would take nothing from the other, but it goes on its own
        HundredthSheep day = trial.told(moor(1, 2, 2, 7) + "owners 2;start 0 is 1;" + drive(1, 0, 1, 0, 1) + ";");
        trial.is("waits(0, 0, 0, 0), of that day", day.waits(0, 0, 0, 0), 0);
        trial.is("waits(0, 0, 0, 1), of that day", day.waits(0, 0, 0, 1), -7);
        trial.is("waits(0, 0, 1, 0), of the next", day.waits(0, 0, 1, 0), 0);
        trial.is("waits(0, 0, 1, 1), of the next", day.waits(0, 0, 1, 1), 0);
    }

    private void ring() {
        trial.sentence("RING: how many DUES n sheep (1 .. 999) pay that go through a GAP at the end of all, one behind the other, r times (0 .. 99) round. -2: there are none such.");
        for (int gap : notBelow(3)) {
            refused("ring(" + gap + ", 1, 1)", y -> y.ring(gap, 1, 1), -2);
            refused("rounds(" + gap + ", 1)", y -> y.rounds(gap, 1), -2);
        }
        int[] sheep = {LEAST, -1, 0, 1000, MOST};
        for (int n : sheep) {
            refused("ring(0, " + n + ", 1)", y -> y.ring(0, n, 1), -2);
            refused("ring(0, " + n + ", 0)", y -> y.ring(0, n, 0), -2);
            refused("rounds(0, " + n + ")", y -> y.rounds(0, n), -2);
        }
        for (int r : notBelow(100)) {
            refused("ring(0, 1, " + r + ")", y -> y.ring(0, 1, r), -2);
        }
        needsMoor("ring(0, 1, 0)", y -> y.ring(0, 1, 0));
        needsMoor("ring(2, 999, 99)", y -> y.ring(2, 999, 99));
        HundredthSheep x = trial.told(moor(4, 1, 100, 1) + "start 3 is 99;");
        int[][] dues = {{0, 1, 0, 0}, {0, 999, 0, 0}, {0, 1, 99, 0}, {0, 50, 2, 1}, {0, 33, 3, 0}, {0, 999, 99, 989}, {3, 1, 0, 0}, {3, 1, 1, 1},
            {3, 1, 99, 1}, {3, 101, 1, 2}, {3, 100, 1, 1}};
        for (int[] d : dues) {
            trial.is("ring(" + d[0] + ", " + d[1] + ", " + d[2] + ")", x.ring(d[0], d[1], d[2]), d[3]);
        }
        x.law(3, 2);
        trial.is("ring(0, 999, 99), each 2", x.ring(0, 999, 99), 999 * 99 / 2);
        trial.is("ring(3, 1, 1), a counter above each", x.ring(3, 1, 1), 1);
        trial.is("ring(3, 2, 1), a counter above each", x.ring(3, 2, 1), 1);
        trial.is("ring(3, 3, 1), a counter above each", x.ring(3, 3, 1), 2);
    }

    private void rounds() {
        trial.sentence("The fewest times round by which the last of them is due as it goes through the last time; NONE: none (each times at most). -2: there are none such.");
        needsMoor("rounds(0, 1)", y -> y.rounds(0, 1));
        needsMoor("rounds(2, 999)", y -> y.rounds(2, 999));
        int[] every = {2, 3, 100};
        for (int each : every) {
            HundredthSheep x = trial.told(moor(2, 1, each, 1) + "start 1 is " + (each - 1) + ";");
            trial.is("rounds(0, 1), each times", x.rounds(0, 1), each);
            trial.is("rounds(1, 1), once", x.rounds(1, 1), 1);
            trial.is("rounds(0, " + each + "), once", x.rounds(0, each), 1);
            trial.is("rounds(1, " + each + "), never", x.rounds(1, each), -1);
        }
        HundredthSheep x = trial.told(moor(2, 1, 100, 1) + "start 1 is 50;");
        trial.is("rounds(0, 999)", x.rounds(0, 999), 100);
        trial.is("rounds(1, 999)", x.rounds(1, 999), 50);
        trial.is("rounds(1, 4), never", x.rounds(1, 4), -1);
        trial.is("rounds(1, 25)", x.rounds(1, 25), 2);
        trial.is("rounds(1, 50)", x.rounds(1, 50), 1);
        x.law(3, 50);
        trial.is("rounds(1, 1), a counter of each", x.rounds(1, 1), 1);
        trial.is("rounds(1, 2), a counter of each", x.rounds(1, 2), -1);
        trial.is("rounds(1, 51), a counter of each", x.rounds(1, 51), 1);
    }

    // ---- 28 to 32: rows of who paid and of what is told

    private void orders() {
        trial.sentence("-2: there are none such, a number is no owner (asked last, behind -6 and -3); -6: it has nothing; -3: there are more than six.");
        for (int slot : notBelow(4)) {
            ordersRefused("slot " + slot, slot, 0, 0, -2);
        }
        for (int wrong : notBelow(3)) {
            ordersRefused("gap " + wrong, 0, wrong, 0, -2);
            ordersRefused("day " + wrong, 0, 0, wrong, -2);
            ordersRefused("gap " + wrong + ", a slot of nothing", 3, wrong, 0, -2);
        }
        ordersRefused("a slot of nothing", 3, 0, 0, -6);
        ordersRefused("4, 5 are no owners", 1, 0, 0, -2);
        needsMoor("orders(0, 0, 0)", y -> y.orders(0, 0, 0));
        needsMoor("order(0, 0, 0, 0)", y -> y.order(0, 0, 0, 0));
        needsMoor("sure(0, 0, 0, 0)", y -> y.sure(0, 0, 0, 0));
        Look.refusedWithoutMoor(trial, "orders of nothing", y -> y.orders(3, 0, 0));
        for (int n = 1; n <= 8; n++) {
            ordersOf(n);
        }
        noOwners();
    }

    private void ordersRefused(String why, int slot, int gap, int day, int answer) {
        refused("orders, " + why, y -> y.orders(slot, gap, day), answer);
        refused("order, " + why, y -> y.order(slot, gap, day, 0), answer);
        refused("sure, " + why, y -> y.sure(slot, gap, day, 0), answer);
    }

    /** So many drives at one gap, none due: all orders explain that nobody paid. */
    private void ordersOf(int many) {
        int[] orders = {1, 1, 2, 6, 24, 120, 720};
        HundredthSheep x = trial.told(moor(1, 1, 100, 1) + repeat(DRIVE + ";", many));
        trial.is("orders, nothing", x.orders(0, 0, 0), -6);
        x.row(0, 0, 0);
        boolean tooMany = many > 6;
        trial.is("orders of " + many, x.orders(0, 0, 0), tooMany ? -3 : orders[many]);
        trial.is("order, the first, of " + many, x.order(0, 0, 0, 0), tooMany ? -3 : 0);
        trial.is("order, the last, of " + many, x.order(0, 0, 0, many - 1), tooMany ? -3 : many - 1);
        trial.is("order behind " + many, x.order(0, 0, 0, many), tooMany ? -3 : -1);
        trial.is("order below 0", x.order(0, 0, 0, -1), tooMany ? -3 : -1);
        trial.is("sure of " + many, x.sure(0, 0, 0, 0), tooMany ? -3 : many == 1 ? 0 : -1);
        trial.is("orders behind -3, nothing", x.orders(1, 0, 0), -6);
        Trial.rowOf(x, 0, 0);
        trial.is("orders of one who paid", x.orders(0, 0, 0), tooMany ? -3 : 0);
        Trial.rowOf(x, 0, 1);
        trial.is("orders of no owner, of " + many, x.orders(0, 0, 0), tooMany ? -3 : -2);
        trial.is("order of no owner, of " + many, x.order(0, 0, 0, 0), tooMany ? -3 : -2);
        trial.is("sure of no owner, of " + many, x.sure(0, 0, 0, 0), tooMany ? -3 : -2);
        trial.is("sure of no drive", x.sure(0, 0, 0, many), -2);
    }

    private void noOwners() {
        HundredthSheep x = trial.told(moor(1, 1, 2, 1) + "owners 5;" + drive(4, 0, 0, 0, 2) + ";");
        long[][] rows = {{4, 1}, {0, 0}, {5, -2}, {-1, -2}, {MOST, -2}, {LEAST, -2}};
        for (long[] row : rows) {
            Trial.rowOf(x, 0, row[0]);
            trial.is("orders of " + row[0], x.orders(0, 0, 0), row[1]);
        }
        Trial.rowOf(x, 0, 4, 5);
        trial.is("orders, the last is no owner", x.orders(0, 0, 0), -2);
        x.row(0, 3, 60);
        trial.is("orders of a full row", x.orders(0, 0, 0), 0);
        x.write(0, 59, 5);
        trial.is("orders of a full row, the last is no owner", x.orders(0, 0, 0), -2);
        x.row(1, 3, 1);
        x.write(1, 0, (1L << 32) + 4);
        trial.is("orders of a great number", x.orders(1, 0, 0), -2);
        // sixty who paid, and one more than a row has
        HundredthSheep sixty = trial.told(moor(1, 2, 2, 1) + drive(0, 0, 0, 0, 99) + " lambs 21;" + drive(0, 0, 1, 0, 99) + " lambs 23;");
        sixty.row(0, 0, 60);
        trial.is("orders of sixty", sixty.orders(0, 0, 0), 1);
        trial.is("orders of sixty-one", sixty.orders(0, 0, 1), 0);
        HundredthSheep two = trial.told(moor(1, 1, 2, 1) + drive(0, 0, 0, 0, 60) + ";" + drive(0, 0, 0, 0, 62) + ";");
        two.row(0, 0, 60);
        trial.is("orders of sixty-one, by two", two.orders(0, 0, 0), 0);
        sixty.row(0, 0, 59);
        trial.is("orders of one too few", sixty.orders(0, 0, 0), 0);
    }

    private void order() {
        trial.sentence("The DRIVE at place i of the first such order (the least DRIVES first). NONE: there are not so many, there is none; -2, -6, -3 likewise.");
        // of two, one and one the third is due: 0 by 1 0 2, 1 0 2 and others, 1 by 0 1 2, 2 by 0 2 1
        HundredthSheep x = trial.told(moor(1, 1, 3, 1) + "owners 4;" + drive(0, 0, 0, 0, 2) + ";" + drive(1, 0, 0, 0, 1) + ";" + drive(2, 0, 0, 0, 1) + ";");
        int[][] orders = {{1, 0, 2}, {0, 1, 2}, {0, 2, 1}, {-1, -1, -1}};
        for (int owner = 0; owner < 4; owner++) {
            Trial.rowOf(x, 0, owner);
            for (int i = 0; i < 3; i++) {
                trial.is("order(0, 0, 0, " + i + ") of " + owner, x.order(0, 0, 0, i), orders[owner][i]);
            }
            int[] beyond = {LEAST, -1, 3, 4, 6, 12, MOST};
            for (int i : beyond) {
                trial.is("order(0, 0, 0, " + i + ") of " + owner, x.order(0, 0, 0, i), -1);
            }
        }
        HundredthSheep none = trial.told(MOOR);
        none.row(0, 0, 0);
        trial.is("orders of no drives", none.orders(0, 0, 0), 1);
        trial.is("order of no drives", none.order(0, 0, 0, 0), -1);
        trial.sentence("The place of a DRIVE in all of these; NONE: not the same, there are none, it does not go there then. -2, -6, -3 likewise, no such DRIVE.");
        int[][] sure = {{-1, -1, -1}, {0, 1, 2}, {0, 2, 1}, {-1, -1, -1}};
        for (int owner = 0; owner < 4; owner++) {
            Trial.rowOf(x, 0, owner);
            for (int i = 0; i < 3; i++) {
                trial.is("sure(0, 0, 0, " + i + ") of " + owner, x.sure(0, 0, 0, i), sure[owner][i]);
            }
        }
        for (int i : notBelow(5)) {
            refused("sure(0, 0, 0, " + i + ")", y -> y.sure(0, 0, 0, i), -2);
            refused("sure(3, 0, 0, " + i + ") of nothing", y -> y.sure(3, 0, 0, i), -2);
        }
        sureElsewhere();
    }

    private void sureElsewhere() {
        HundredthSheep x = trial.told(moor(2, 2, 9, 1) + drive(0, 0, 0, 0, 1) + ";" + drive(0, 1, 0, 0, 1) + ";" + drive(0, 0, 1, 0, 1) + ";"
            + drive(0, 0, 0, 23, 1) + " lame;" + drive(0, 0, 1, 23, 1) + " lame;");
        x.row(0, 0, 0);
        int[] here = {0, -1, -1, -1, -1};
        for (int i = 0; i < 5; i++) {
            trial.is("sure(0, 0, 0, " + i + ")", x.sure(0, 0, 0, i), here[i]);
        }
        trial.is("orders(0, 0, 1)", x.orders(0, 0, 1), 2);
        trial.is("order(0, 0, 1, 0)", x.order(0, 0, 1, 0), 2);
        trial.is("order(0, 0, 1, 1)", x.order(0, 0, 1, 1), 3);
    }

    private void wrong() {
        trial.sentence("-2: there is no such SLOT, DAY, a number is not 0 .. 9,999 (asked last); -6: it has nothing; -7: there are not as many as GAPS.");
        for (int slot : notBelow(4)) {
            toldRefused("slot " + slot, slot, 0, -2);
        }
        for (int day : notBelow(3)) {
            toldRefused("day " + day, 0, day, -2);
            toldRefused("day " + day + ", nothing", 3, day, -2);
        }
        toldRefused("nothing", 3, 0, -6);
        toldRefused("two of three", 1, 0, -7);
        toldRefused("none of three", 2, 0, -7);
        needsMoor("wrong(0, 0)", y -> y.wrong(0, 0));
        needsMoor("anew(0, 2)", y -> y.anew(0, 2));
        Look.refusedWithoutMoor(trial, "wrong of nothing", y -> y.wrong(3, 0));
        for (int gaps = 1; gaps <= 4; gaps++) {
            numbersTold(gaps);
        }
    }

    private void toldRefused(String why, int slot, int day, int answer) {
        refused("wrong, " + why, y -> y.wrong(slot, day), answer);
        refused("anew, " + why, y -> y.anew(slot, day), answer);
    }

    private void numbersTold(int gaps) {
        HundredthSheep x = trial.told(moor(gaps, 1, 2, 1));
        for (int n = 0; n <= 6; n++) {
            x.row(0, 2, n);
            trial.is("wrong of " + n + " for " + gaps, x.wrong(0, 0), n == gaps ? 0 : -7);
            trial.is("anew of " + n + " for " + gaps, x.anew(0, 0), n == gaps ? 0 : -7);
            if (n > 0) {
                x.write(0, n - 1, -1);
                trial.is("wrong of " + n + " for " + gaps + ", below 0", x.wrong(0, 0), n == gaps ? -2 : -7);
                trial.is("anew of " + n + " for " + gaps + ", below 0", x.anew(0, 0), n == gaps ? -2 : -7);
            }
        }
        int[][] numbers = {{-1, -2}, {0, 0}, {1, 1}, {9999, 1}, {10000, -2}, {LEAST, -2}, {MOST, -2}};
        for (int at = 0; at < gaps; at++) {
            for (int[] number : numbers) {
                x.row(0, 2, gaps);
                x.write(0, at, number[0]);
                trial.is("wrong of " + number[0], x.wrong(0, 0), number[1]);
            }
        }
        x.row(0, 2, gaps);
        for (int at = 0; at < gaps; at++) {
            x.write(0, at, 9999);
            trial.is("wrong of " + (at + 1), x.wrong(0, 0), at + 1);
        }
    }

    private void anew() {
        trial.sentence("(0: what they have told is that; else the least k by which 2 to the k is no less than GAPS)");
        int[] least = {0, 0, 1, 2, 2};
        for (int gaps = 1; gaps <= 4; gaps++) {
            HundredthSheep x = trial.told(moor(gaps, 1, 2, 1) + drive(0, gaps - 1, 0, 0, 5) + " lambs 2;");
            x.row(0, 2, gaps);
            trial.is("anew of too few, gaps " + gaps, x.anew(0, 0), least[gaps]);
            x.write(0, 0, 7);
            trial.is("anew of what it is, gaps " + gaps, x.anew(0, 0), 0);
            trial.is("wrong, gaps " + gaps, x.wrong(0, 0), gaps == 1 ? 0 : 2);
            x.write(0, 0, 6);
            trial.is("anew of one too few, gaps " + gaps, x.anew(0, 0), least[gaps]);
            x.write(0, 0, 8);
            trial.is("anew of one too many, gaps " + gaps, x.anew(0, 0), least[gaps]);
            for (int gap = 0; gap < gaps; gap++) {
                x.write(0, gap, 9999);
            }
            trial.is("anew of the most, gaps " + gaps, x.anew(0, 0), least[gaps]);
        }
    }

    // ---- 33 to 37: draws, other laws, numbers of things

    private void mixed() {
        trial.sentence("MIXED (VI) by a seed (0 .. 2,000,000,000): what an owner pays in all. -2: there are none such.");
        int[] seeds = {LEAST, -1, 2000000001, MOST};
        for (int seed : seeds) {
            refused("mixed(" + seed + ", 0)", y -> y.mixed(seed, 0), -2);
            refused("luck(" + seed + ", 1, 0)", y -> y.luck(seed, 1, 0), -2);
        }
        for (int owner : notBelow(3)) {
            refused("mixed(0, " + owner + ")", y -> y.mixed(0, owner), -2);
            refused("luck(0, 1, " + owner + ")", y -> y.luck(0, 1, owner), -2);
        }
        needsMoor("mixed(0, 0)", y -> y.mixed(0, 0));
        needsMoor("mixed(2000000000, 2)", y -> y.mixed(2000000000, 2));
        trial.is("mixed of the most", full().mixed(2000000000, 4), 6 * 198 * 999);
        trial.is("mixed of none", trial.told(MOOR).mixed(0, 0), 0);
    }

    private void luck() {
        trial.sentence("Of n (1 .. 20) such from seeds, the seed and 1, .., in how many he pays more than unmixed. -2 likewise.");
        int[] wrong = {LEAST, -1, 0, 21, MOST};
        for (int n : wrong) {
            refused("luck(0, " + n + ", 0)", y -> y.luck(0, n, 0), -2);
        }
        needsMoor("luck(0, 1, 0)", y -> y.luck(0, 1, 0));
        needsMoor("luck(2000000000, 20, 2)", y -> y.luck(2000000000, 20, 2));
        HundredthSheep x = trial.told(moor(1, 1, 2, 1) + "owners 3;start 0 is 1;" + drive(0, 0, 0, 0, 1) + ";" + drive(1, 0, 0, 0, 1) + ";");
        // the draws of 2 from seeds 0, 1, 2 are 0, from 3, 4, 5 are 1: by 0 the second goes first
        int[][] luck = {{0, 1, 1}, {0, 2, 2}, {0, 3, 3}, {0, 4, 3}, {0, 6, 3}, {2, 1, 1}, {3, 1, 0}, {3, 3, 0}, {2000000000, 1, 1}};
        for (int[] l : luck) {
            trial.is("luck(" + l[0] + ", " + l[1] + ", 1)", x.luck(l[0], l[1], 1), l[2]);
            trial.is("luck(" + l[0] + ", " + l[1] + ", 0)", x.luck(l[0], l[1], 0), 0);
            trial.is("luck(" + l[0] + ", " + l[1] + ", 2)", x.luck(l[0], l[1], 2), 0);
        }
        int more = 0;
        for (int seed = 1999999981; seed <= 2000000000; seed++) {
            more += x.mixed(seed, 1);
        }
        trial.is("luck of twenty up to the last seed", x.luck(1999999981, 20, 1), more);
        // 2000000001 is no seed to ask for, but the next from 2000000000 on: its draw of 2 is 0 too
        trial.is("luck of two from the last seed", x.luck(2000000000, 2, 1), 2);
        x.law(4, 0);
        trial.is("luck, due 0", x.luck(0, 20, 1), 0);
    }

    private void free() {
        trial.sentence("The least each (2 .. 100) by which an owner pays nothing, all else as it is; NONE: by none. -2: there is none such.");
        for (int owner : notBelow(3)) {
            refused("free(" + owner + ")", y -> y.free(owner), -2);
        }
        needsMoor("free(0)", y -> y.free(0));
        needsMoor("free(2)", y -> y.free(2));
        int[][] sheep = {{1, 0, 2}, {2, 0, 3}, {98, 0, 99}, {99, 0, 100}, {99, 1, -1}, {99, 99, -1}};
        for (int[] s : sheep) {
            HundredthSheep x = trial.told(moor(1, 1, 50, 1) + drive(0, 0, 0, 0, s[0]) + " lambs " + s[1] + ";");
            trial.is("free(0) of " + s[0] + " and " + s[1], x.free(0), s[2]);
            trial.is("law(3), each as it was", x.law(3, 50), 50);
        }
        trial.is("free(0) of none", trial.told(MOOR).free(0), 2);
        HundredthSheep start = trial.told(moor(1, 1, 100, 1) + "start 0 is 98;" + drive(0, 0, 0, 0, 1) + ";");
        trial.is("free(0) from a start", start.free(0), 100);
        HundredthSheep never = trial.told(moor(1, 1, 100, 1) + "start 0 is 99;" + drive(0, 0, 0, 0, 1) + ";");
        trial.is("free(0) from a start by none", never.free(0), -1);
        never.law(4, 0);
        trial.is("free(0), due 0", never.free(0), 2);
    }

    private void all() {
        trial.sentence("What all pay together (what 0), if nights keep, by gaps (1: clear, by gaps; 2: keep, by all; 3: clear, by all). -2: there is no such what, no MOOR.");
        for (int what : notBelow(4)) {
            refused("all(" + what + ")", y -> y.all(what), -2);
            Look.refusedWithoutMoor(trial, "all(" + what + ")", y -> y.all(what));
        }
        for (int what = 0; what < 4; what++) {
            int asked = what;
            needsMoor("all(" + what + ")", y -> y.all(asked));
            trial.is("all(" + what + ") of none", trial.told(MOOR).all(what), 0);
            trial.is("all(" + what + ") of the most", full().all(what), 6 * 198 * 999);
        }
        int[][] sheep = {{1, 2, 3}, {2, 1, 3}};
        String text = moor(3, 2, 4, 10) + "owners 2;";
        for (int day = 0; day < 2; day++) {
            for (int gap = 0; gap < 3; gap++) {
                text += drive(day, gap, day, 0, sheep[day][gap]) + ";";
            }
        }
        // by gaps 3, 3 and 6, each day by itself none, by all 12, each day by itself 6 and 6
        int[] sums = {10, 0, 30, 20};
        for (int laws = 0; laws < 4; laws++) {
            HundredthSheep x = trial.told(text);
            x.law(0, laws / 2);
            x.law(1, laws % 2);
            for (int what = 0; what < 4; what++) {
                trial.is("all(" + what + ") by laws " + laws, x.all(what), sums[what]);
            }
            trial.is("paid as by laws " + laws, x.paid(0) + x.paid(1), sums[laws]);
        }
    }

    private void counts() {
        trial.sentence("0 gaps, 1 days, 2 owners (0 without a MOOR), 3 DRIVES, 4 FOGS, 5 LINES, 6 bytes of the TAPE, 7 the DAY from which lambs are lambs, 8 SLOTS that have a row. NONE for others.");
        HundredthSheep x = Look.made();
        HundredthSheep bare = Look.bare();
        int tape = 32 + 8 * 32;
        int[] made = {3, 3, 3, 5, 2, 12, tape, 1, 3};
        int[] none = {0, 0, 0, 0, 0, 0, tape, 0, 3};
        for (int what = 0; what < 9; what++) {
            trial.is("count(" + what + ")", x.count(what), made[what]);
            trial.is("count(" + what + ") without a moor", bare.count(what), none[what]);
        }
        for (int what : notBelow(9)) {
            refused("count(" + what + ")", y -> y.count(what), -1);
            trial.is("count(" + what + ") without a moor", bare.count(what), -1);
        }
        HundredthSheep most = trial.told(moor(4, 9, 2, 1) + "owners 5;lambs from 8;" + repeat(DRIVE + ";", 12)
            + repeat("fog 0 on 0 misses 2;", 8));
        Trial.type(most, repeat(" ", 1600));
        for (int slot = 0; slot < 4; slot++) {
            trial.is("count(8)", most.count(8), slot);
            most.row(slot, 0, 0);
        }
        int[] full = {4, 9, 5, 12, 8, 23, 1600, 8, 4};
        for (int what = 0; what < 9; what++) {
            trial.is("count(" + what + ") of the most", most.count(what), full[what]);
        }
    }

    // ---- 38 to 42: images and rows

    private void images() {
        trial.sentence("IMAGE k (0 .. 2) keeps the MOOR, LAWS, where DRIVES go: 0. -2: no such k.");
        for (int k : notBelow(3)) {
            refused("keep(" + k + ")", y -> y.keep(k), -2);
            refused("back(" + k + ")", y -> y.back(k), -2);
        }
        trial.sentence("These are as IMAGE k has them: 0. -2: no such k; -6: it has nothing.");
        refused("back(1) of nothing", y -> y.back(1), -6);
        for (int k = 0; k < 3; k++) {
            HundredthSheep x = new HundredthSheep();
            for (int other = 0; other < 3; other++) {
                trial.is("back(" + other + ") of nothing", x.back(other), -6);
            }
            trial.is("keep(" + k + ") of no moor", x.keep(k), 0);
            Trial.type(x, MOOR);
            x.moor();
            for (int other = 0; other < 3; other++) {
                trial.is("back(" + other + ") behind keep(" + k + ")", x.back(other), other == k ? 0 : -6);
                trial.is("count(5)", x.count(5), other >= k ? 0 : 1);
            }
        }
        oneImageEach();
        whatImagesLeave();
    }

    private void oneImageEach() {
        HundredthSheep x = trial.told(moor(2, 1, 9, 1) + DRIVE + ";");
        for (int k = 0; k < 3; k++) {
            x.law(3, 10 + k);
            x.sets(0, k % 2, 20 + k);
            trial.is("keep(" + k + ")", x.keep(k), 0);
        }
        for (int k = 2; k >= 0; k--) {
            for (int times = 0; times < 2; times++) {
                trial.is("back(" + k + ")", x.back(k), 0);
                trial.is("drive(0, 1) of image " + k, x.drive(0, 1), k % 2);
                trial.is("sets of image " + k, x.sets(0, 0, 0), 100 * (k % 2) + 20 + k);
                trial.is("law(3, 2) of image " + k, x.law(3, 2), 10 + k);
            }
        }
        x.keep(1);
        x.back(0);
        trial.is("back(1) of another one", x.back(1), 0);
        trial.is("law(3, 2) of another one", x.law(3, 2), 2);
    }

    /** An image has neither rows nor tape nor fault, and is not changed by what is kept in another. */
    private void whatImagesLeave() {
        HundredthSheep x = Look.made();
        int tape = x.count(6);
        trial.is("back(0)", x.back(0), 0);
        trial.is("count(6)", x.count(6), tape);
        trial.is("count(8)", x.count(8), 3);
        trial.is("fault(0)", x.fault(0), 2);
        trial.is("fault(1)", x.fault(1), 10);
        trial.is("moor()", x.moor(), 9);
        trial.is("count(3)", x.count(3), 8);
        trial.is("back(0) in place of another", x.back(0), 0);
        trial.is("count(3)", x.count(3), 5);
        trial.is("law(1, 0)", x.law(1, 0), 0);
        trial.is("sets(1, 0, 0)", x.sets(1, 0, 0), 108);
        trial.is("back(2)", x.back(2), 0);
        trial.is("law(1, 0)", x.law(1, 0), 1);
        trial.is("sets(1, 0, 0)", x.sets(1, 0, 0), 209);
    }

    private void rows() {
        trial.sentence("A SLOT (0 .. 3) has a row of n numbers of a WIDTH, all 0 (in place of another one): 0.");
        HundredthSheep x = trial.told(MOOR);
        int[] sizes = {0, 1, 59, 60};
        for (int slot = 0; slot < 4; slot++) {
            for (int width = 0; width < 4; width++) {
                for (int n : sizes) {
                    trial.is("row(" + slot + ", " + width + ", " + n + ")", x.row(slot, width, n), 0);
                    trial.is("write to the last", x.write(slot, n - 1, 7), n == 0 ? -7 : 0);
                    trial.is("write behind the last", x.write(slot, n, 7), -7);
                }
            }
        }
        trial.is("row(0, 2, 1) in place of sixty", x.row(0, 2, 1), 0);
        trial.is("wrong(0, 0), it is 0", x.wrong(0, 0), 0);
        x.write(0, 0, 5);
        trial.is("row(0, 2, 1) in place of the same", x.row(0, 2, 1), 0);
        trial.is("wrong(0, 0), it is 0 again", x.wrong(0, 0), 0);
        trial.sentence("SLOTS 0 .. 3 have rows of numbers of 1, 2, 4 or 8 bytes (WIDTH 0 .. 3), at most 60, or nothing.");
        for (int slot : notBelow(4)) {
            refused("row(" + slot + ", 0, 1)", y -> y.row(slot, 0, 1), -2);
            refused("row(" + slot + ", 0, -1)", y -> y.row(slot, 0, -1), -2);
        }
        for (int width : notBelow(4)) {
            refused("row(0, " + width + ", 1)", y -> y.row(0, width, 1), -2);
            refused("row(0, " + width + ", -1)", y -> y.row(0, width, -1), -2);
        }
        trial.sentence("-2: there is no such SLOT or WIDTH (0 .. 3), or n is above 60; -3, and the SLOT stays: n is below 0.");
        for (int slot = 0; slot < 4; slot++) {
            int at = slot;
            refused("row(" + slot + ", 0, 61)", y -> y.row(at, 0, 61), -2);
            refused("row(" + slot + ", 3, 61)", y -> y.row(at, 3, 61), -2);
            refused("row of the most", y -> y.row(at, 0, MOST), -2);
            refused("row(" + slot + ", 0, -1)", y -> y.row(at, 0, -1), -3);
            refused("row(" + slot + ", 3, -1)", y -> y.row(at, 3, -1), -3);
            refused("row of the least", y -> y.row(at, 0, LEAST), -3);
        }
    }

    private void writes() {
        trial.sentence("-2: there is no such SLOT; -6: it has nothing; -7: there is no such number.");
        for (int slot : notBelow(4)) {
            refused("write(" + slot + ", 0, 1)", y -> y.write(slot, 0, 1), -2);
        }
        int[] any = {LEAST, -1, 0, 59, MOST};
        for (int i : any) {
            refused("write(3, " + i + ", 1) to nothing", y -> y.write(3, i, 1), -6);
            refused("write(2, " + i + ", 1) to none", y -> y.write(2, i, 1), -7);
        }
        for (int i : notBelow(3)) {
            refused("write(0, " + i + ", 1)", y -> y.write(0, i, 1), -7);
        }
        refused("write(1, 2, 1)", y -> y.write(1, 2, 1), -7);
    }

    private void cuts() {
        trial.sentence("Number i of the SLOT's row is v, cut to its WIDTH: 0.");
        long[][] bytes = {{0, 0}, {127, 127}, {128, -1}, {255, -1}, {256, 0}, {257, 1}, {383, 127}, {384, -1}, {-1, -1}, {-128, -1},
            {-129, 127}, {-255, 1}, {-256, 0}, {Long.MAX_VALUE, -1}, {Long.MIN_VALUE, 0}};
        long[][] shorts = {{127, 127}, {128, 128}, {255, 255}, {256, 256}, {9999, 9999}, {10000, -1}, {32767, -1}, {32768, -1}, {65535, -1},
            {65536, 0}, {65537, 1}, {75535, 9999}, {75536, -1}, {-1, -1}, {-32768, -1}, {-65535, 1}, {-65536, 0},
            {Long.MAX_VALUE, -1}, {Long.MIN_VALUE, 0}};
        long[][] ints = {{9999, 9999}, {10000, -1}, {65536, -1}, {65537, -1}, {2147483647L, -1}, {2147483648L, -1}, {4294967295L, -1},
            {4294967296L, 0}, {4294967297L, 1}, {-4294967295L, 1}, {-4294967296L, 0}, {-1, -1}, {Long.MAX_VALUE, -1}, {Long.MIN_VALUE, 0}};
        long[][] longs = {{9999, 9999}, {10000, -1}, {4294967296L, -1}, {4294967297L, -1}, {-4294967295L, -1}, {-1, -1},
            {Long.MAX_VALUE, -1}, {Long.MIN_VALUE, -1}, {0, 0}};
        long[][][] all = {bytes, shorts, ints, longs};
        for (int width = 0; width < 4; width++) {
            for (long[] number : all[width]) {
                cutTo(width, number[0], (int) number[1]);
            }
        }
    }

    /** What a number comes to, told by wrong(); -1 stands for all that are not 0 .. 9,999. */
    private void cutTo(int width, long v, int number) {
        HundredthSheep x = trial.told(moor(1, 1, 2, 1) + beasts(Math.min(number, 1000)));
        x.row(0, width, 1);
        trial.is("write(0, 0, " + v + ") of width " + width, x.write(0, 0, v), 0);
        // more than a gap can have are told as wrong, if they are numbers at all
        trial.is("number of " + v + " of width " + width, x.wrong(0, 0), number < 0 ? -2 : number > 1000 ? 1 : 0);
    }

    private static String beasts(int many) {
        StringBuilder text = new StringBuilder();
        for (int left = many; left > 0; left -= Math.min(left, 99)) {
            text.append(drive(0, 0, 0, 0, Math.min(left, 99))).append(";");
        }
        return text.toString();
    }

    private void pastes() {
        trial.sentence("-2: there is no such SLOT; -6: one has nothing; -8: they are not of one WIDTH; -7, and nothing happens: some are beyond their rows, or a place or n is below 0.");
        for (int slot : notBelow(4)) {
            refused("paste(" + slot + ", 0, 0, 0, 1)", y -> y.paste(slot, 0, 0, 0, 1), -2);
            refused("paste(0, 0, " + slot + ", 0, 1)", y -> y.paste(0, 0, slot, 0, 1), -2);
            refused("paste(" + slot + ", 0, 3, 0, 1) to nothing", y -> y.paste(slot, 0, 3, 0, 1), -2);
        }
        refused("paste from nothing", y -> y.paste(3, 0, 0, 0, 1), -6);
        refused("paste to nothing", y -> y.paste(0, 0, 3, 0, 1), -6);
        refused("paste from nothing to itself", y -> y.paste(3, 0, 3, 0, 0), -6);
        refused("paste from nothing, below 0", y -> y.paste(3, -1, 0, 0, -1), -6);
        refused("paste of another width", y -> y.paste(0, 0, 1, 0, 1), -8);
        refused("paste of another width, none", y -> y.paste(0, 0, 2, 0, 0), -8);
        refused("paste of another width, beyond", y -> y.paste(0, 9, 1, 0, 9), -8);
        refused("paste of another width, below 0", y -> y.paste(0, -1, 1, -1, -1), -8);
        int[][] beyond = {{0, 0, 4}, {1, 0, 3}, {3, 0, 1}, {0, 1, 3}, {0, 3, 1}, {2, 2, 2}, {-1, 0, 1}, {0, -1, 1}, {0, 0, -1}, {-1, 0, 0},
            {0, -1, 0}, {-1, -1, -1}, {MOST, 0, 1}, {0, MOST, 1}, {0, 0, MOST}, {MOST, MOST, MOST}, {1, 1, MOST}, {MOST, 1, 2},
            {LEAST, 0, 1}, {0, LEAST, 1}, {0, 0, LEAST}, {LEAST, LEAST, LEAST}};
        for (int[] b : beyond) {
            refused("paste(0, " + b[0] + ", 0, " + b[1] + ", " + b[2] + ")", y -> y.paste(0, b[0], 0, b[1], b[2]), -7);
        }
        Look.refused(trial, "paste to a shorter one", y -> y.row(3, 0, 2), y -> y.paste(0, 0, 3, 0, 3), -7);
        Look.refused(trial, "paste from a shorter one", y -> y.row(3, 0, 2), y -> y.paste(3, 0, 0, 0, 3), -7);
        Look.refused(trial, "paste of none", y -> y.row(3, 0, 2), y -> y.paste(0, 3, 3, 2, 0), 0);
        refused("paste of none within itself", y -> y.paste(0, 0, 0, 0, 0), 0);
        refused("paste of none of a row of none", y -> y.paste(2, 0, 2, 0, 0), 0);
        refused("paste of all to itself", y -> y.paste(0, 0, 0, 0, 3), 0);
    }

    private void pastedNumbers() {
        trial.sentence("So many numbers of a SLOT's row, from one on, are put to another one's (or its own), from one on, as they were: 0.");
        int[][] within = {{0, 1, 4}, {1, 0, 4}, {0, 4, 1}, {4, 0, 1}, {0, 2, 3}, {2, 0, 3}, {0, 0, 5}};
        for (int width = 0; width < 4; width++) {
            for (int[] w : within) {
                int[] numbers = {1, 2, 3, 4, 5};
                HundredthSheep x = reader(width, numbers);
                trial.is("paste(0, " + w[0] + ", 0, " + w[1] + ", " + w[2] + ")", x.paste(0, w[0], 0, w[1], w[2]), 0);
                System.arraycopy(numbers.clone(), w[0], numbers, w[1], w[2]);
                numbersAre(x, 0, width, numbers);
            }
        }
        HundredthSheep x = reader(1, new int[] {1, 2, 3, 4, 5});
        x.row(1, 1, 60);
        trial.is("paste to the end of sixty", x.paste(0, 0, 1, 55, 5), 0);
        trial.is("paste one behind that", x.paste(0, 0, 1, 56, 5), -7);
        trial.is("paste of sixty to itself", x.paste(1, 0, 1, 0, 60), 0);
        trial.is("paste of sixty-one", x.paste(1, 0, 1, 0, 61), -7);
        int[] sixty = new int[60];
        for (int i = 0; i < 5; i++) {
            sixty[55 + i] = i + 1;
        }
        numbersAre(x, 1, 1, sixty);
        numbersAre(x, 0, 1, new int[] {1, 2, 3, 4, 5});
    }

    /** A moor by whose days a number of a row can be told, and a row in slot 0. */
    private HundredthSheep reader(int width, int[] numbers) {
        String text = moor(1, 6, 2, 1);
        for (int day = 1; day < 6; day++) {
            text += drive(0, 0, day, 0, day) + ";";
        }
        HundredthSheep x = trial.told(text);
        x.row(0, width, numbers.length);
        for (int i = 0; i < numbers.length; i++) {
            x.write(0, i, numbers[i]);
        }
        return x;
    }

    private void numbersAre(HundredthSheep x, int slot, int width, int[] numbers) {
        x.row(3, width, 1);
        for (int i = 0; i < numbers.length; i++) {
            trial.is("paste of number " + i, x.paste(slot, i, 3, 0, 1), 0);
            trial.is("number " + i, x.wrong(3, numbers[i]), 0);
        }
    }

    /** What is only looked at or thought of leaves nothing behind: each answer is the same behind any other. */
    private void thoughts() {
        trial.sentence("(in thought)");
        List<ToIntFunction<HundredthSheep>> calls = lookingCalls();
        int[] alone = new int[calls.size()];
        for (int b = 0; b < alone.length; b++) {
            alone[b] = calls.get(b).applyAsInt(Look.made());
        }
        for (int a = 0; a < alone.length; a++) {
            HundredthSheep x = Look.made();
            for (int b = 0; b < alone.length; b++) {
                calls.get(a).applyAsInt(x);
                trial.is("call " + b + " behind call " + a, calls.get(b).applyAsInt(x), alone[b]);
            }
        }
    }

    private static List<ToIntFunction<HundredthSheep>> lookingCalls() {
        List<ToIntFunction<HundredthSheep>> calls = new ArrayList<>(List.of(x -> x.dues(), x -> x.worst(), x -> x.rest(), x -> x.due(1, 5),
            x -> x.rests(30), x -> x.rests(1), x -> x.orders(0, 0, 2), x -> x.order(0, 0, 2, 0), x -> x.wrong(0, 0), x -> x.anew(0, 0)));
        for (int i = 0; i < 5; i++) {
            int drive = i;
            calls.addAll(List.of(x -> x.harm(drive), x -> x.best(drive, 0), x -> x.best(drive, 2), x -> x.split(drive, 0),
                x -> x.split(drive, 3), x -> x.sent(drive, 1), x -> x.sent(drive, 30), x -> x.sure(0, 0, 2, drive), x -> x.goes(drive)));
        }
        for (int i = 0; i < 3; i++) {
            int at = i;
            calls.addAll(List.of(x -> x.paid(at), x -> x.pays(at, 2), x -> x.left(at), x -> x.counter(at, 1, 23), x -> x.through(at, 2, 1)));
            calls.addAll(List.of(x -> x.ring(at, 99, 9), x -> x.rounds(at, 5), x -> x.mixed(7, at), x -> x.luck(7, 9, at), x -> x.free(at)));
            calls.addAll(List.of(x -> x.all(at), x -> x.waits(at, 0, 2, 0), x -> x.waits(at, 2, 1, 1), x -> x.ewe(at, 0, 2, 0)));
            calls.addAll(List.of(x -> x.ewe(at, 1, 0, 7), x -> x.ewe(at, 2, 0, 9), x -> x.ewe(at, 0, 1, 23), x -> x.ewe(at, 2, 2, 1)));
        }
        return calls;
    }

    private void ofTheTape() {
        newObject();
        feeding();
        feedingTooMuch();
        ending();
        reading();
        nothingOfTheOther();
        readingFaults();
        faults();
    }

    private void ofDrives() {
        drives();
        laws();
        setting();
        counters();
        through();
        dues();
        paid();
        worst();
        left();
    }

    private void ofThoughts() {
        best();
        rest();
        rests();
        harm();
        ewe();
        waits();
        ring();
        rounds();
        orders();
        order();
        wrong();
        anew();
        mixed();
        luck();
        free();
        all();
        thoughts();
    }

    private void ofKeeping() {
        counts();
        images();
        rows();
        writes();
        cuts();
        pastes();
        pastedNumbers();
    }

    public static void main(String[] args) throws IOException {
        Trial trial = new Trial();
        EdgeTests tests = new EdgeTests(trial);
        tests.ofTheTape();
        tests.ofDrives();
        tests.ofThoughts();
        tests.ofKeeping();
        trial.close();
    }
}
