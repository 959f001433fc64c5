import java.io.IOException;

/** Promises 1 to 5, the tape and its text: each bound that a sentence names, and what is left as it was. */
public final class TapeTests extends Trial {
    private TapeTests() throws IOException {
        super();
    }

    private void newObject() {
        sentence("`HundredthSheep()`: No MOOR.");
        HundredthSheep x = new HundredthSheep();
        for (int what = 0; what < 9; what++) {
            is("count(" + what + ")", x.count(what), 0);
        }
        is("dues()", x.dues(), -2);
        is("worst()", x.worst(), -2);
        is("rest()", x.rest(), -2);
        for (int k = 0; k < 3; k++) {
            is("back(" + k + ")", x.back(k), -6);
        }
        for (int slot = 0; slot < 4; slot++) {
            is("write(" + slot + ", 0, 0)", x.write(slot, 0, 0), -6);
        }
    }

    private void feeding() {
        sentence("Twenty bytes come behind the TAPE, four of each number, the highest first: how many it has;");
        HundredthSheep x = new HundredthSheep();
        is("feed", x.feed(0x6d6f6f72, 0x20676170, 0x73203120, 0x64617973, 0x20312065), 20);
        is("feed", x.feed(0x61636820, 0x32206475, 0x6520313b, 0x6c617720, 0x616c6c3b), 40);
        is("moor()", x.moor(), 2);
        is("law(0, 0)", x.law(0, 0), 1);
        is("feed behind a moor", x.feed(0x20202020, 0x20202020, 0x20202020, 0x20202020, 0x202020ff), 20);
        is("moor() of a high byte", x.moor(), -4);
        is("fault(1)", x.fault(1), 19);
        x.end(0);
        x.feed(LEAST, -1, MOST, -1, 0);
        is("moor() of high bytes", x.moor(), -4);
        is("fault(1)", x.fault(1), 0);
    }

    private void feedingTooMuch() {
        sentence("NONE, and none come, if it would have more than 1,600.");
        HundredthSheep x = new HundredthSheep();
        for (int i = 1; i <= 80; i++) {
            is("feed", x.feed(0, 0, 0, 0, 0), 20 * i);
        }
        is("feed to a full one", x.feed(0, 0, 0, 0, 0), -1);
        is("count(6)", x.count(6), 1600);
        int[] lengths = {1580, 1581, 1590, 1599, 1600};
        for (int length : lengths) {
            HundredthSheep y = new HundredthSheep();
            type(y, MOOR + repeat(" ", length - 32));
            is("feed behind " + length, y.feed(-1, -1, -1, -1, -1), length == 1580 ? 1600 : -1);
            is("count(6)", y.count(6), length == 1580 ? 1600 : length);
            is("moor()", y.moor(), length == 1580 ? -4 : 1);
        }
    }

    private void ending() {
        sentence("The TAPE has its first n bytes alone: n; NONE, and nothing happens, if it has not so many, or n is below 0.");
        HundredthSheep x = new HundredthSheep();
        is("end(0) of an empty one", x.end(0), 0);
        is("end(1) of an empty one", x.end(1), -1);
        is("end(-1) of an empty one", x.end(-1), -1);
        type(x, MOOR + "????????");
        is("end(41)", x.end(41), -1);
        is("end(-1)", x.end(-1), -1);
        is("end of the least", x.end(LEAST), -1);
        is("end of the most", x.end(MOST), -1);
        is("count(6)", x.count(6), 40);
        is("end(40)", x.end(40), 40);
        is("end(32)", x.end(32), 32);
        is("end(33) of what it had", x.end(33), -1);
        is("moor()", x.moor(), 1);
        is("end(1) of one that was read", x.end(1), -1);
        type(x, MOOR + "law no");
        x.end(36);
        type(x, "all;");
        is("moor() of what came behind", x.moor(), 2);
        HundredthSheep full = new HundredthSheep();
        type(full, repeat(" ", 1600));
        is("end(1601) of a full one", full.end(1601), -1);
        is("end(1600) of a full one", full.end(1600), 1600);
        is("end(0) of a full one", full.end(0), 0);
        is("count(6)", full.count(6), 0);
        refused("end(-1)", y -> y.end(-1), -1);
        refused("end of one more", y -> y.end(y.count(6) + 1), -1);
    }

    private void reading() {
        sentence("The TAPE (empty then) is the MOOR (in place of another): how many LINES (0: there is none then).");
        HundredthSheep x = Look.made();
        x.end(0);
        type(x, MOOR + DRIVE + ";");
        is("moor()", x.moor(), 2);
        int[] counts = {1, 1, 1, 1, 0, 2, 0, 0, 3};
        for (int what = 0; what < 9; what++) {
            is("count(" + what + ")", x.count(what), counts[what]);
        }
        int[] laws = {0, 0, 0, 2, 1};
        for (int what = 0; what < 5; what++) {
            is("law(" + what + ")", x.law(what, laws[what]), laws[what]);
        }
        is("counter(0, 0, 0), no start of the other", x.counter(0, 0, 0), 1);
        is("through(0, 0, 1)", x.through(0, 0, 1), 1);
        is("moor() of an empty tape", x.moor(), 0);
        int[] none = {0, 0, 0, 0, 0, 0, 0, 0, 3};
        for (int what = 0; what < 9; what++) {
            is("count(" + what + ") of none", x.count(what), none[what]);
        }
        is("dues() of none", x.dues(), -2);
        is("law(0, 0) of none", x.law(0, 0), -2);
        is("drive(0, 0) of none", x.drive(0, 0), -2);
        is("back(0), images stay", x.back(0), 0);
        is("count(3), images stay", x.count(3), 5);
    }

    private void nothingOfTheOther() {
        sentence("(in place of another)");
        HundredthSheep x = told(moor(2, 3, 9, 4) + "law all;law clear;law pass;owners 5;start 0 is 3;start 1 is 4;lambs from 2;"
            + drive(4, 1, 2, 9, 9) + " lambs 9 painted 3 lame;fog 0 on 0 misses 2;fog 1 on 2 misses 2;");
        type(x, moor(2, 3, 9, 4) + drive(0, 0, 0, 0, 4) + " lambs 1;" + drive(0, 1, 2, 0, 4) + ";");
        is("moor()", x.moor(), 3);
        int[] first = {0, 0, 0, 0, 4, 1, 0, 0};
        int[] second = {0, 1, 2, 0, 4, 0, 0, 0};
        for (int what = 0; what < 8; what++) {
            is("drive(0, " + what + ")", x.drive(0, what), first[what]);
            is("drive(1, " + what + ")", x.drive(1, what), second[what]);
        }
        is("through(0, 0, 1), no fog, lambs count", x.through(0, 0, 1), 5);
        is("through(1, 2, 1), no fog", x.through(1, 2, 1), 4);
        is("counter(0, 2, 23), no start, nights keep", x.counter(0, 2, 23), 5);
        is("counter(1, 2, 23), by gaps", x.counter(1, 2, 23), 4);
        is("count(7)", x.count(7), 0);
        is("paid(1), one owner", x.paid(1), -2);
    }

    private void fewerThanTheOther() {
        HundredthSheep x = told(moor(1, 1, 2, 7) + "owners 3;" + repeat(drive(2, 0, 0, 0, 9) + " lambs 9 lame;", 3));
        type(x, moor(1, 1, 2, 7) + DRIVE + ";");
        x.moor();
        x.row(0, 0, 0);
        int[] seen = {x.count(3), x.through(0, 0, 0), x.through(0, 0, 1), x.dues(), x.left(0), x.mixed(0, 0), x.all(0), x.orders(0, 0, 0),
            x.harm(0), x.ewe(0, 0, 0, 0), x.free(0), x.drive(1, 0), x.goes(1), x.best(1, 0)};
        int[] due = {1, 1, 1, 0, 1, 0, 0, 1, 0, 0, 2, -2, -2, -2};
        for (int i = 0; i < seen.length; i++) {
            is("answer " + i + " of a moor of fewer drives", seen[i], due[i]);
        }
    }

    private void ownersAgain() {
        HundredthSheep x = told(MOOR + "owners 5;" + drive(4, 0, 0, 0, 1) + ";");
        type(x, MOOR + "owners 2;");
        is("moor() with owners again", x.moor(), 2);
        is("count(2)", x.count(2), 2);
        type(x, MOOR + "owners 3;?");
        is("moor() with owners and a fault", x.moor(), -4);
        is("count(2)", x.count(2), 2);
        x.end(0);
        type(x, MOOR + "owners 4;");
        is("moor() with owners behind a fault", x.moor(), 2);
        is("count(2)", x.count(2), 4);
        type(x, MOOR);
        is("moor() without owners", x.moor(), 1);
        is("count(2), 1 without", x.count(2), 1);
    }

    private void readingFaults() {
        sentence("-4: a FAULT (all stays).");
        String[] faults = {"?", "moor", "owners 2;", "drive 9"};
        int[] kinds = {1, 1, 2, 2};
        for (int i = 0; i < faults.length; i++) {
            HundredthSheep untouched = Look.made();
            type(untouched, faults[i]);
            HundredthSheep x = Look.made();
            type(x, faults[i]);
            is("moor() with " + faults[i], x.moor(), -4);
            is("fault(0) with " + faults[i], x.fault(0), kinds[i]);
            is("count(6), the tape too", x.count(6), untouched.count(6));
            alikeButForFaults("behind a fault", x, untouched);
        }
        HundredthSheep x = Look.made();
        int length = x.count(6);
        type(x, "?");
        is("moor()", x.moor(), -4);
        is("end at the fault", x.end(x.fault(1)), length);
        is("moor() without it", x.moor(), 9);
        is("count(3)", x.count(3), 8);
        nothingOfAFault();
    }

    /** What a faulty text told ahead of its fault is not taken, and what was told before stays, the tape too. */
    private void nothingOfAFault() {
        HundredthSheep x = told(moor(2, 3, 9, 4) + "owners 2;start 0 is 3;" + drive(1, 1, 2, 9, 9) + " lambs 9;");
        x.law(3, 8);
        x.sets(0, 0, 7);
        String faulty = moor(1, 1, 2, 1) + "law all;law clear;law pass;owners 1;start 0 is 1;lambs from 0;" + DRIVE + ";" + FOG + "?";
        type(x, faulty);
        is("moor()", x.moor(), -4);
        int[] counts = {2, 3, 2, 1, 0, 4, faulty.length(), 0, 0};
        for (int what = 0; what < 9; what++) {
            is("count(" + what + ") behind a fault", x.count(what), counts[what]);
        }
        int[] laws = {0, 0, 0, 8, 4};
        for (int what = 0; what < 5; what++) {
            is("law(" + what + ") behind a fault", x.law(what, laws[what]), laws[what]);
        }
        int[] drive = {1, 0, 2, 7, 9, 9, 1, 0};
        for (int what = 0; what < 8; what++) {
            is("drive(0, " + what + ") behind a fault", x.drive(0, what), drive[what]);
        }
        is("counter(0, 0, 23) behind a fault", x.counter(0, 0, 23), 3);
        is("through(0, 2, 1) behind a fault, no fog", x.through(0, 2, 1), 18);
        int place = x.fault(1);
        is("moor() again, of the same tape", x.moor(), -4);
        is("fault(1) again", x.fault(1), place);
        is("end at the fault", x.end(place), place);
        is("moor() without the fault", x.moor(), 9);
        is("count(6) then", x.count(6), 0);
        type(x, "?");
        is("moor()", x.moor(), -4);
        is("end(0)", x.end(0), 0);
        is("moor() of a tape emptied behind a fault", x.moor(), 0);
        is("count(5), none then", x.count(5), 0);
    }

    private void faults() {
        sentence("Of the latest moor(), what 0: its FAULT, 0 without, 1: its place (NONE without). NONE for another what, and "
            + "ahead of any (what 1).");
        HundredthSheep x = new HundredthSheep();
        faultIs("ahead of any", x, 0, -1);
        x.moor();
        faultIs("of nothing", x, 0, -1);
        String[] texts = {"?", MOOR + "owners 6;", MOOR + repeat("fog 0 on 0 misses 2;", 9)};
        int[] places = {0, 39, 192};
        for (int i = 0; i < 3; i++) {
            type(x, texts[i]);
            x.moor();
            faultIs("of a fault", x, i + 1, places[i]);
            x.end(0);
            faultIs("behind end", x, i + 1, places[i]);
        }
        type(x, MOOR);
        faultIs("ahead of the next", x, 3, 192);
        x.moor();
        faultIs("of one without", x, 0, -1);
        type(x, "?");
        x.moor();
        x.end(0);
        x.moor();
        faultIs("of nothing behind a fault", x, 0, -1);
    }

    private void faultIs(String when, HundredthSheep x, int fault, int place) {
        is("fault(0) " + when, x.fault(0), fault);
        is("fault(1) " + when, x.fault(1), place);
        is("fault(2) " + when, x.fault(2), -1);
        is("fault(-1) " + when, x.fault(-1), -1);
        is("fault of the least " + when, x.fault(LEAST), -1);
        is("fault of the most " + when, x.fault(MOST), -1);
    }

    public static void main(String[] args) throws IOException {
        TapeTests tests = new TapeTests();
        tests.newObject();
        tests.feeding();
        tests.feedingTooMuch();
        tests.ending();
        tests.reading();
        tests.nothingOfTheOther();
        tests.fewerThanTheOther();
        tests.ownersAgain();
        tests.readingFaults();
        tests.faults();
        tests.close();
    }
}
