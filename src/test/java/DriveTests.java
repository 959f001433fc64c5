import java.io.IOException;

/** Promises 6 to 17, drives, laws and who pays: each bound that a sentence names, and what is left as it was. */
public final class DriveTests extends Trial {
    private DriveTests() throws IOException {
        super();
    }

    private void drives() {
        sentence("Of a DRIVE, what 0: owner, 1: GAP, 2: DAY, 3: HOUR told, 4: sheep, 5: lambs, 6: who pays (III), 7: 1 if it is "
            + "lame, else 0. -2: there are none such.");
        int[][] told = {{0, 1, 0, 7, 9, 4, 0, 0}, {1, 2, 0, 9, 12, 0, 2, 0}, {2, 0, 1, 23, 15, 3, 2, 1}, {0, 2, 2, 23, 5, 0, 0, 1},
            {1, 0, 2, 0, 1, 0, 1, 0}};
        HundredthSheep x = Look.made();
        for (int i = 0; i < 5; i++) {
            for (int what = 0; what < 8; what++) {
                is("drive(" + i + ", " + what + ")", x.drive(i, what), told[i][what]);
            }
        }
        for (int i : notBelow(5)) {
            refused("drive(" + i + ", 0)", y -> y.drive(i, 0), -2);
            refused("drive(" + i + ", 7)", y -> y.drive(i, 7), -2);
        }
        for (int what : notBelow(8)) {
            refused("drive(0, " + what + ")", y -> y.drive(0, what), -2);
        }
        needsMoor("drive(0, 0)", y -> y.drive(0, 0));
        sentence("When a DRIVE goes through (II): 24 times the DAY and the HOUR; NONE: never. -2: there is none such.");
        int[] goes = {7, 9, 48, -1, 48};
        for (int i = 0; i < 5; i++) {
            is("goes(" + i + ")", x.goes(i), goes[i]);
        }
        for (int i : notBelow(5)) {
            refused("goes(" + i + ")", y -> y.goes(i), -2);
        }
        needsMoor("goes(3)", y -> y.goes(3));
        HundredthSheep edges = told(moor(1, 9, 2, 1) + DRIVE + ";" + drive(0, 0, 8, 23, 1) + ";" + drive(0, 0, 8, 22, 1) + " lame;");
        is("goes at the first hour", edges.goes(0), 0);
        is("goes at the last hour", edges.goes(1), 215);
        is("goes late at the last hour", edges.goes(2), 215);
    }

    private void laws() {
        sentence("The LAW (what 0: 0 by gaps, 1 by all; 1: 0 nights keep, 1 clear; 2: 0 lambs count, 1 pass; 3: each, 2 .. 100; "
            + "4: due, 0 .. 999) is n from now on: which it was. -2: there are none such, no MOOR.");
        int[] was = {0, 1, 0, 6, 5};
        int[] least = {0, 0, 0, 2, 0};
        int[] most = {1, 1, 1, 100, 999};
        HundredthSheep x = Look.made();
        for (int what = 0; what < 5; what++) {
            int law = what;
            is("law(" + what + ") to the least", x.law(what, least[what]), was[what]);
            is("law(" + what + ") to the most", x.law(what, most[what]), least[what]);
            is("law(" + what + ") as it was", x.law(what, was[what]), most[what]);
            refused("law(" + what + ") below", y -> y.law(law, least[law] - 1), -2);
            refused("law(" + what + ") above", y -> y.law(law, most[law] + 1), -2);
            refused("law(" + what + ") of the least", y -> y.law(law, LEAST), -2);
            refused("law(" + what + ") of the most", y -> y.law(law, MOST), -2);
            refusedWithoutMoor("law(" + what + ")", y -> y.law(law, least[law]));
        }
        for (int what : notBelow(5)) {
            refused("law(" + what + ", 2)", y -> y.law(what, 2), -2);
            refused("law(" + what + ", 0)", y -> y.law(what, 0), -2);
        }
        lawsAtWork();
    }

    private void lawsAtWork() {
        // each 2 and 100, due 0 and 999 by what is paid; by all, by nights and by lambs by the counter
        HundredthSheep x = told(moor(2, 2, 50, 7) + drive(0, 0, 0, 0, 99) + " lambs 99;" + drive(0, 1, 1, 0, 3) + ";");
        is("paid(0)", x.paid(0), 21);
        x.law(3, 2);
        is("paid(0) by each 2", x.paid(0), 7 * 100);
        x.law(3, 100);
        is("paid(0) by each 100", x.paid(0), 7);
        x.law(4, 999);
        is("paid(0) by due 999", x.paid(0), 999);
        x.law(4, 0);
        is("paid(0) by due 0", x.paid(0), 0);
        is("dues() by due 0", x.dues(), 1);
        is("counter(1, 1, 0) by gaps", x.counter(1, 1, 0), 3);
        x.law(0, 1);
        is("counter(1, 1, 0) by all", x.counter(1, 1, 0), 1);
        x.law(2, 1);
        is("counter(1, 1, 0), lambs pass", x.counter(1, 1, 0), 2);
        x.law(1, 1);
        is("counter(1, 1, 0), nights clear", x.counter(1, 1, 0), 3);
    }

    private void setting() {
        sentence("A DRIVE goes to another GAP and HOUR from now on: 100 times the GAP that it went to and the HOUR told. -2: "
            + "there are none such.");
        HundredthSheep x = told(moor(4, 2, 2, 1) + DRIVE + ";" + drive(0, 3, 0, 23, 1) + " lame;");
        is("sets(0, 3, 23)", x.sets(0, 3, 23), 0);
        is("goes(0)", x.goes(0), 23);
        is("sets(0, 0, 0)", x.sets(0, 0, 0), 323);
        is("goes(0)", x.goes(0), 0);
        is("sets(1, 0, 0)", x.sets(1, 0, 0), 323);
        is("goes(1), lame still", x.goes(1), 1);
        is("sets(1, 3, 23)", x.sets(1, 3, 23), 0);
        is("goes(1), lame still", x.goes(1), 24);
        is("drive(1, 2), its day stays", x.drive(1, 2), 0);
        for (int i : notBelow(5)) {
            refused("sets(" + i + ", 0, 0)", y -> y.sets(i, 0, 0), -2);
        }
        for (int gap : notBelow(3)) {
            refused("sets(0, " + gap + ", 0)", y -> y.sets(0, gap, 0), -2);
        }
        for (int hour : notBelow(24)) {
            refused("sets(0, 0, " + hour + ")", y -> y.sets(0, 0, hour), -2);
        }
        refusedWithoutMoor("sets(0, 0, 0)", y -> y.sets(0, 0, 0));
    }

    private void counters() {
        sentence("COUNTER of a GAP (by all: the one that all have) behind an HOUR of a DAY. -2: there are none such.");
        HundredthSheep x = told(moor(4, 9, 100, 1) + drive(0, 0, 0, 0, 1) + ";" + drive(0, 3, 8, 23, 2) + ";" + drive(0, 3, 8, 22, 4) + ";");
        is("counter(0, 0, 0)", x.counter(0, 0, 0), 1);
        is("counter(3, 0, 0)", x.counter(3, 0, 0), 0);
        is("counter(3, 8, 21)", x.counter(3, 8, 21), 0);
        is("counter(3, 8, 22)", x.counter(3, 8, 22), 4);
        is("counter(3, 8, 23)", x.counter(3, 8, 23), 6);
        x.law(0, 1);
        is("counter(1, 8, 23) by all", x.counter(1, 8, 23), 7);
        for (int gap : notBelow(3)) {
            refused("counter(" + gap + ", 0, 0)", y -> y.counter(gap, 0, 0), -2);
            refused("through(" + gap + ", 0, 0)", y -> y.through(gap, 0, 0), -2);
            refused("counter(" + gap + ", 0, 0) by all", y -> y.law(0, 1), y -> y.counter(gap, 0, 0), -2);
        }
        for (int day : notBelow(3)) {
            refused("counter(0, " + day + ", 0)", y -> y.counter(0, day, 0), -2);
            refused("through(0, " + day + ", 0)", y -> y.through(0, day, 0), -2);
        }
        for (int hour : notBelow(24)) {
            refused("counter(0, 0, " + hour + ")", y -> y.counter(0, 0, hour), -2);
        }
        needsMoor("counter(0, 0, 0)", y -> y.counter(0, 0, 0));
        needsMoor("counter(2, 2, 23)", y -> y.counter(2, 2, 23));
    }

    private void through() {
        sentence("How many beasts go through a GAP on a DAY (what 0), how many of them are counted (1). -2: there are none such.");
        for (int what : notBelow(2)) {
            refused("through(0, 0, " + what + ")", y -> y.through(0, 0, what), -2);
        }
        needsMoor("through(2, 2, 1)", y -> y.through(2, 2, 1));
        HundredthSheep full = full();
        is("through(0, 0, 0) of the most", full.through(0, 0, 0), 12 * 198);
        is("through(0, 0, 1) of the most", full.through(0, 0, 1), 12 * 198);
        is("through(0, 0, 0) of none", told(MOOR).through(0, 0, 0), 0);
        is("through(0, 0, 1) of none", told(MOOR).through(0, 0, 1), 0);
        HundredthSheep fog = told(moor(1, 1, 2, 1) + drive(0, 0, 0, 0, 1) + ";" + "fog 0 on 0 misses 2;");
        is("through(0, 0, 1) of one in a fog", fog.through(0, 0, 1), 1);
    }

    private void dues() {
        sentence("How many DUES there are. -2: there is no MOOR.");
        HundredthSheep full = full();
        is("dues() of the most", full.dues(), 6 * 198);
        is("dues() of none", told(MOOR).dues(), 0);
        is("dues() of one too few", told(MOOR + DRIVE + ";").dues(), 0);
        needsMoor("dues()", y -> y.dues());
        sentence("Of DUE i (in order), what 0: DAY, 1: HOUR, 2: GAP, 3: who pays, 4: the DRIVE, 5: the place of the beast in it "
            + "(0 the first).");
        HundredthSheep edges = told(moor(4, 9, 2, 1) + "owners 5;start 0 is 1;" + drive(4, 3, 8, 23, 99) + " lambs 99 painted 3;"
            + drive(0, 0, 0, 0, 1) + ";");
        int[] first = {0, 0, 0, 0, 1, 0};
        int[] last = {8, 23, 3, 3, 0, 197};
        int[] lastOfAll = {0, 23, 0, 4, 11, 197};
        for (int what = 0; what < 6; what++) {
            is("due(0, " + what + ")", edges.due(0, what), first[what]);
            is("due(99, " + what + ")", edges.due(99, what), last[what]);
            is("due(1187, " + what + ") of the most", full.due(1187, what), lastOfAll[what]);
        }
        sentence("NONE: there is none such; -2: there is no such what, no MOOR.");
        for (int what = 0; what < 6; what++) {
            is("due(100, " + what + ")", edges.due(100, what), -1);
            is("due(1188, " + what + ")", full.due(1188, what), -1);
            is("due(-1, " + what + ")", full.due(-1, what), -1);
            int asked = what;
            refused("due of the least", y -> y.due(LEAST, asked), -1);
            refused("due of the most", y -> y.due(MOST, asked), -1);
            refused("due behind the last", y -> y.due(y.dues(), asked), -1);
            refusedWithoutMoor("due(0, " + what + ")", y -> y.due(0, asked));
            is("due(0, " + what + ") of none", told(MOOR).due(0, what), -1);
        }
        for (int what : notBelow(6)) {
            refused("due(0, " + what + ")", y -> y.due(0, what), -2);
            refused("due(-1, " + what + ")", y -> y.due(-1, what), -2);
        }
        looksOnly("due(0, 5)", y -> y.due(0, 5));
    }

    private void paid() {
        sentence("What an owner pays in all. -2: there is none such.");
        HundredthSheep full = full();
        is("paid(4) of the most", full.paid(4), 6 * 198 * 999);
        is("paid(0) of nothing", full.paid(0), 0);
        for (int owner : notBelow(3)) {
            refused("paid(" + owner + ")", y -> y.paid(owner), -2);
            refused("pays(" + owner + ", 0)", y -> y.pays(owner, 0), -2);
        }
        needsMoor("paid(0)", y -> y.paid(0));
        needsMoor("paid(2)", y -> y.paid(2));
        sentence("How many DUES he pays on a DAY. -2: there are none such.");
        is("pays(4, 0) of the most", full.pays(4, 0), 6 * 198);
        for (int day : notBelow(3)) {
            refused("pays(0, " + day + ")", y -> y.pays(0, day), -2);
        }
        needsMoor("pays(2, 2)", y -> y.pays(2, 2));
        HundredthSheep x = told(moor(1, 3, 2, 0) + "owners 2;" + drive(0, 0, 0, 23, 2) + ";" + drive(1, 0, 1, 0, 4) + " painted 0;"
            + drive(0, 0, 1, 23, 6) + " lame;" + drive(0, 0, 2, 23, 8) + " lame;");
        int[] pays = {1, 2, 3};
        for (int day = 0; day < 3; day++) {
            is("pays(0, " + day + "), though due is 0", x.pays(0, day), pays[day]);
            is("pays(1, " + day + ")", x.pays(1, day), 0);
        }
    }

    private void worst() {
        sentence("Who pays most, the first of several; NONE: nobody pays a DUE. -2: there is no MOOR.");
        is("worst() of none", told(MOOR).worst(), -1);
        is("worst() of one too few", told(MOOR + DRIVE + ";").worst(), -1);
        String five = moor(1, 1, 2, 3) + "owners 5;";
        is("worst(), the last", full().worst(), 4);
        is("worst(), the first", told(five + drive(0, 0, 0, 0, 2) + ";").worst(), 0);
        String all = five;
        for (int owner = 4; owner >= 1; owner--) {
            all += drive(owner, 0, 0, 4 - owner, 2) + ";";
        }
        is("worst() of several", told(all).worst(), 1);
        is("worst() of one more", told(all + drive(3, 0, 0, 23, 2) + ";").worst(), 3);
        is("worst() of whom he is painted by", told(five + drive(0, 0, 0, 0, 2) + " painted 4;").worst(), 4);
        needsMoor("worst()", y -> y.worst());
    }

    private void left() {
        sentence("How many more are to be counted at a GAP at the end till one is due (1 .. each). -2: there is none such.");
        int[] every = {2, 3, 100};
        for (int each : every) {
            HundredthSheep x = told(moor(2, 1, each, 1) + "start 1 is " + (each - 1) + ";");
            is("left(0), each " + each, x.left(0), each);
            is("left(1), each " + each, x.left(1), 1);
            x.law(0, 1);
            is("left(1) by all", x.left(1), each);
        }
        HundredthSheep late = told(moor(1, 9, 9, 1) + "start 0 is 3;" + drive(0, 0, 8, 23, 4) + ";");
        is("left(0) behind the last hour", late.left(0), 2);
        late.law(1, 1);
        is("left(0) behind the last night that clears", late.left(0), 5);
        is("ring(0, 5, 1) behind the last night that clears", late.ring(0, 5, 1), 1);
        HundredthSheep over = told(moor(1, 1, 100, 1) + "start 0 is 50;");
        int[][] left = {{100, 50}, {52, 2}, {51, 1}, {50, 1}, {49, 1}, {2, 1}};
        for (int[] l : left) {
            over.law(3, l[0]);
            is("left(0) of 50, each " + l[0], over.left(0), l[1]);
        }
        for (int gap : notBelow(3)) {
            refused("left(" + gap + ")", y -> y.left(gap), -2);
        }
        needsMoor("left(0)", y -> y.left(0));
        needsMoor("left(2)", y -> y.left(2));
    }

    public static void main(String[] args) throws IOException {
        DriveTests tests = new DriveTests();
        tests.drives();
        tests.laws();
        tests.setting();
        tests.counters();
        tests.through();
        tests.dues();
        tests.paid();
        tests.worst();
        tests.left();
        tests.close();
    }
}
