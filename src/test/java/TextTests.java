import java.io.IOException;

/** Term I, the text of a moor and its faults: each bound that a sentence names. */
public final class TextTests extends Trial {
    private TextTests() throws IOException {
        super();
    }

    // ---- I: the lines of a text

    private void lines() {
        sentence("MOOR: {LINE ;}.");
        HundredthSheep x = new HundredthSheep();
        is("moor() of no line", x.moor(), 0);
        type(x, " \n\n  ");
        is("moor() of blanks", x.moor(), 0);
        type(x, MOOR);
        is("moor() of one line", x.moor(), 1);
        type(x, MOOR + repeat("law all;", 196));
        is("moor() of as many lines as a tape has room for", x.moor(), 197);
        faulty(";", 1, 0);
        faulty(MOOR + ";", 1, 32);
        faulty(";" + MOOR, 1, 0);
        faulty("moor gaps 1 days 1 each 2 due 1", 1, 31);
        faulty(MOOR + "law all", 1, 39);
    }

    private void firstLine() {
        sentence("moor is the first LINE and no other:");
        String[] others = {"law all;", "owners 1;", "start 0 is 0;", "lambs from 0;", DRIVE + ";", FOG};
        for (String other : others) {
            faulty(other, 1, 0);
            faulty(" " + other + MOOR, 1, 1);
            told(MOOR + other);
            faulty(MOOR + other + MOOR, 1, 32 + other.length());
        }
        faulty(MOOR + MOOR, 1, 32);
    }

    private void numbersOfTheMoor() {
        sentence("gaps 1 .. 4, days 1 .. 9, each 2 .. 100, due 0 .. 999.");
        bounds("moor gaps ", " days 1 each 2 due 1;", 1, 4);
        bounds("moor gaps 1 days ", " each 2 due 1;", 1, 9);
        bounds("moor gaps 1 days 1 each ", " due 1;", 2, 100);
        bounds("moor gaps 1 days 1 each 2 due ", ";", 0, 999);
        HundredthSheep least = told("moor gaps 1 days 1 each 2 due 0;");
        is("count(0)", least.count(0), 1);
        is("count(1)", least.count(1), 1);
        is("law(3, 2)", least.law(3, 2), 2);
        is("law(4, 0)", least.law(4, 0), 0);
        HundredthSheep most = told("moor gaps 4 days 9 each 100 due 999;");
        is("count(0)", most.count(0), 4);
        is("count(1)", most.count(1), 9);
        is("law(3, 2)", most.law(3, 2), 100);
        is("law(4, 0)", most.law(4, 0), 999);
    }

    private void numbersThatWrapAround() {
        sentence("2 a number out of its bounds, not as said;");
        String[] great = {"4294967298", "2147483650", "18446744073709551618", "100000000000000000002", "65538", "258",
            "1" + repeat("0", 1500), repeat("9", 1000)};
        for (String number : great) {
            faulty("moor gaps 1 days 1 each " + number + " due 1;", 2, 24);
            faulty("moor gaps " + number + " days 1 each 2 due 1;", 2, 10);
        }
        HundredthSheep x = told("moor gaps 1 days 1 each " + repeat("0", 1500) + "2 due 1;");
        is("law(3, 2) of a long number", x.law(3, 2), 2);
        told("moor gaps 01 days 009 each 0100 due 000;");
    }

    private void gapsAndDays() {
        sentence("G a GAP, on a DAY (0 .. days less 1).");
        for (int gaps = 1; gaps <= 4; gaps++) {
            String moor = moor(gaps, 1, 2);
            bounds(moor + "start ", " is 0;", 0, gaps - 1);
            bounds(moor + "drive 0 gap ", " on 0 at 0 sheep 1;", 0, gaps - 1);
            bounds(moor + "fog ", " on 0 misses 2;", 0, gaps - 1);
        }
        for (int days = 1; days <= 9; days++) {
            String moor = moor(1, days, 2);
            bounds(moor + "drive 0 gap 0 on ", " at 0 sheep 1;", 0, days - 1);
            bounds(moor + "fog 0 on ", " misses 2;", 0, days - 1);
        }
        HundredthSheep last = told(moor(4, 9, 2) + "drive 0 gap 3 on 8 at 0 sheep 3;fog 3 on 8 misses 2;");
        is("drive(0, 1)", last.drive(0, 1), 3);
        is("drive(0, 2)", last.drive(0, 2), 8);
        is("through(3, 8, 0)", last.through(3, 8, 0), 3);
        is("through(3, 8, 1)", last.through(3, 8, 1), 2);
    }

    private void laws() {
        sentence("WORD: gaps | all | keep | clear | count | pass (by gaps, nights keep, lambs count without; a later one "
            + "strikes).");
        String[] words = {"gaps", "all", "keep", "clear", "count", "pass"};
        lawsAre("", 0, 0, 0);
        for (int i = 0; i < 6; i++) {
            int[] law = new int[3];
            law[i / 2] = i % 2;
            lawsAre("law " + words[i] + ";", law);
            for (int j = 0; j < 6; j++) {
                int[] later = law.clone();
                later[j / 2] = j % 2;
                lawsAre("law " + words[i] + ";law " + words[j] + ";", later);
            }
        }
        String[] others = {"gap", "gapss", "night", "moor", "law", "lambs", "a", "7", ";", "All", ""};
        for (String other : others) {
            faulty(MOOR + "law " + other, 1, 36);
        }
        faulty(MOOR + "law all clear;", 1, 40);
    }

    private void lawsAre(String told, int... law) {
        HundredthSheep x = told(MOOR + told);
        for (int what = 0; what < 3; what++) {
            is("law(" + what + ", 0) by " + told, x.law(what, 0), law[what]);
        }
    }

    private void owners() {
        sentence("owners 1 .. 5 (1 without), once, ahead of each drive.");
        bounds(MOOR + "owners ", ";", 1, 5);
        is("count(2) without", told(MOOR).count(2), 1);
        is("count(2) of the least", told(MOOR + "owners 1;").count(2), 1);
        is("count(2) of the most", told(MOOR + "owners 5;").count(2), 5);
        String ahead = MOOR + "law all;start 0 is 1;lambs from 0;" + FOG;
        told(ahead + "owners 5;drive 4 gap 0 on 0 at 0 sheep 1;");
        sentence("owners told already, or behind a drive (at it).");
        faulty(MOOR + "owners 1;owners 1;", 2, 41);
        faulty(MOOR + "owners 5;owners 6;", 2, 41);
        faulty(ahead + "owners 5;" + FOG + "owners", 2, ahead.length() + 29);
        faulty(MOOR + DRIVE + ";owners 1;", 2, 64);
        faulty(MOOR + "owners 2;" + DRIVE + ";owners 2;", 2, 73);
    }

    private void ownersOfDrives() {
        sentence("O: an owner 0 .. owners less 1.");
        bounds(MOOR + "drive ", " gap 0 on 0 at 0 sheep 1;", 0, 0);
        for (int owners = 1; owners <= 5; owners++) {
            bounds(MOOR + "owners " + owners + ";drive ", " gap 0 on 0 at 0 sheep 1;", 0, owners - 1);
        }
        bounds(MOOR + "owners 5;drive 2 gap 0 on 0 at 0 sheep 1 painted ", ";", 0, 4);
        bounds(MOOR + "owners 3;drive 1 gap 0 on 0 at 0 sheep 1 painted ", ";", 0, 2);
        bounds(MOOR + "owners 2;drive 1 gap 0 on 0 at 0 sheep 1 painted ", ";", 0, 0);
    }

    private void starts() {
        sentence("start: 0 .. each less 1 (a later one strikes; 0 without; by all that of GAP 0).");
        int[] every = {2, 3, 100};
        for (int each : every) {
            String start = moor(2, 1, each) + "start 1 is ";
            bounds(start, ";", 0, each - 1);
            is("counter of the most", told(start + (each - 1) + ";").counter(1, 0, 0), each - 1);
            is("counter of the least", told(start + "0;").counter(1, 0, 0), 0);
        }
        String moor = moor(3, 1, 9);
        HundredthSheep x = told(moor + "start 1 is 8;start 2 is 7;start 1 is 5;start 2 is 0;");
        is("counter(0, 0, 0) without", x.counter(0, 0, 0), 0);
        is("counter(1, 0, 0) by a later one", x.counter(1, 0, 0), 5);
        is("counter(2, 0, 0) by a later one of 0", x.counter(2, 0, 0), 0);
        HundredthSheep all = told(moor + "law all;start 0 is 4;start 1 is 8;");
        HundredthSheep none = told(moor + "law all;start 1 is 8;");
        for (int gap = 0; gap < 3; gap++) {
            is("counter(" + gap + ", 0, 0) by all", all.counter(gap, 0, 0), 4);
            is("counter(" + gap + ", 0, 0) by all, without", none.counter(gap, 0, 0), 0);
        }
    }

    private void lambsFrom() {
        sentence("lambs from a DAY (a later one strikes; 0 without).");
        for (int days = 1; days <= 9; days++) {
            bounds(moor(1, days, 2) + "lambs from ", ";", 0, days - 1);
        }
        String moor = moor(1, 9, 2);
        is("count(7) without", told(moor).count(7), 0);
        is("count(7) of the last day", told(moor + "lambs from 8;").count(7), 8);
        is("count(7) of a later one", told(moor + "lambs from 8;lambs from 3;").count(7), 3);
        is("count(7) of a later one of 0", told(moor + "lambs from 8;lambs from 0;").count(7), 0);
    }

    private void numbersOfDrives() {
        sentence("at an HOUR 0 .. 23, sheep 1 .. 99, lambs 0 .. 99 (0 without), painted another owner.");
        bounds(MOOR + "drive 0 gap 0 on 0 at ", " sheep 1;", 0, 23);
        bounds(MOOR + "drive 0 gap 0 on 0 at 0 sheep ", ";", 1, 99);
        bounds(MOOR + DRIVE + " lambs ", ";", 0, 99);
        HundredthSheep x = told(moor(4, 9, 2) + "owners 5;drive 0 gap 0 on 0 at 0 sheep 1;"
            + "drive 4 gap 3 on 8 at 23 sheep 99 lambs 99 painted 3 lame;drive 1 gap 0 on 0 at 0 sheep 1 lambs 0 painted 0;");
        int[][] told = {{0, 0, 0, 0, 1, 0, 0, 0}, {4, 3, 8, 23, 99, 99, 3, 1}, {1, 0, 0, 0, 1, 0, 0, 0}};
        for (int i = 0; i < 3; i++) {
            for (int what = 0; what < 8; what++) {
                is("drive(" + i + ", " + what + ")", x.drive(i, what), told[i][what]);
            }
        }
        for (int owner = 0; owner < 5; owner++) {
            String before = MOOR + "owners 5;" + drive(owner, 0, 0, 0, 1) + " painted ";
            for (int by = 0; by < 5; by++) {
                if (by == owner) {
                    faulty(before + by + ";", 2, before.length());
                } else {
                    is("drive(0, 6)", told(before + by + ";").drive(0, 6), by);
                }
            }
        }
    }

    private void partsOfDrives() {
        sentence("drive O gap G on N at N sheep N [lambs N] [painted O] [lame]");
        String before = MOOR + "owners 2;" + DRIVE;
        String[] parts = {" lambs 1", " painted 1", " lame"};
        for (int which = 0; which < 8; which++) {
            String some = "";
            for (int k = 0; k < 3; k++) {
                some += (which >> k) % 2 == 1 ? parts[k] : "";
            }
            HundredthSheep x = told(before + some + ";");
            is("drive(0, 5) of" + some, x.drive(0, 5), which % 2);
            is("drive(0, 6) of" + some, x.drive(0, 6), which / 2 % 2);
            is("drive(0, 7) of" + some, x.drive(0, 7), which / 4);
        }
        for (int first = 0; first < 3; first++) {
            for (int second = 0; second <= first; second++) {
                faulty(before + parts[first] + parts[second] + ";", 1, before.length() + parts[first].length() + 1);
            }
        }
        faulty(before + " lambs;", 1, before.length() + 6);
        faulty(before + " painted;", 1, before.length() + 8);
        faulty(before + " lame 1;", 1, before.length() + 6);
        faulty(before + " 1;", 1, before.length() + 1);
    }

    private void fogs() {
        sentence("misses 2 .. 9 (a later one of that GAP and DAY strikes).");
        bounds(MOOR + "fog 0 on 0 misses ", ";", 2, 9);
        String moor = moor(2, 2, 100) + drive(0, 0, 0, 0, 18) + ";" + drive(0, 1, 0, 0, 18) + ";" + drive(0, 0, 1, 0, 18) + ";";
        HundredthSheep x = told(moor + "fog 0 on 0 misses 2;fog 1 on 0 misses 9;fog 0 on 1 misses 9;");
        is("through(0, 0, 1), 2 missed", x.through(0, 0, 1), 9);
        is("through(1, 0, 1), another gap", x.through(1, 0, 1), 16);
        is("through(0, 1, 1), another day", x.through(0, 1, 1), 16);
        HundredthSheep y = told(moor + "fog 0 on 0 misses 2;fog 0 on 0 misses 9;");
        is("through(0, 0, 1) by a later one", y.through(0, 0, 1), 16);
        is("through(1, 0, 1) without", y.through(1, 0, 1), 18);
    }

    private void howManyDrivesAndFogs() {
        sentence("DRIVES 0 .. 11, FOGS 0 .. 7 are numbered as they stand.");
        HundredthSheep none = told(MOOR);
        is("count(3) of none", none.count(3), 0);
        is("count(4) of none", none.count(4), 0);
        is("drive(0, 4) of none", none.drive(0, 4), -2);
        StringBuilder text = new StringBuilder(moor(2, 4, 2));
        for (int i = 0; i < 12; i++) {
            text.append(drive(0, 0, 0, 23 - i, i + 1)).append(";");
            text.append(i < 8 ? "fog " + i / 4 + " on " + i % 4 + " misses 2;" : "");
        }
        HundredthSheep full = told(text.toString());
        is("count(3) of the most", full.count(3), 12);
        is("count(4) of the most", full.count(4), 8);
        for (int i = 0; i < 12; i++) {
            is("drive(" + i + ", 4)", full.drive(i, 4), i + 1);
        }
        is("drive(12, 4)", full.drive(12, 4), -2);
    }

    private void tooManyDrivesAndFogs() {
        sentence("3 a 13th drive, a 9th fog (one that strikes, too), at its word.");
        String drives = MOOR + repeat(DRIVE + ";", 12);
        told(drives);
        faulty(drives + DRIVE + ";", 3, drives.length());
        faulty(drives + "\n drive", 3, drives.length() + 2);
        faulty(drives + "drive 9", 3, drives.length());
        String fogs = moor(2, 4, 2);
        for (int i = 0; i < 8; i++) {
            fogs += "fog " + i / 4 + " on " + i % 4 + " misses 2;";
        }
        told(fogs);
        faulty(fogs + FOG, 3, fogs.length());
        String same = MOOR + repeat(FOG, 8);
        told(same);
        is("count(4) of struck ones", told(same).count(4), 8);
        faulty(same + FOG, 3, same.length());
        faulty(same + " fog 9", 3, same.length() + 1);
    }

    // ---- I: tokens and faults

    private void signs() {
        sentence("TOKENS, blanks (32, 10) aside, the longest: words (a .. z), numbers (digits), the sign ; .");
        for (int sign = 0; sign < 256; sign++) {
            String behind = MOOR + (char) sign;
            String between = "moor" + (char) sign + "gaps 1 days 1 each 2 due 1;";
            if (sign == 32 || sign == 10) {
                told(behind);
                told(between);
                told((char) sign + MOOR);
            } else {
                boolean letter = sign >= 'a' && sign <= 'z';
                faulty(behind, 1, 32);
                faulty(between, 1, letter ? 0 : 4);
            }
        }
    }

    private void longestTokens() {
        sentence("TOKENS, blanks (32, 10) aside, the longest:");
        told("moor gaps1days1each2due1;");
        told("moor\ngaps\n1\ndays\n1\neach\n2\ndue\n1\n;\nlaw all;law\n\npass ;\n");
        faulty("moorgaps 1 days 1 each 2 due 1;", 1, 0);
        faulty("mo or gaps 1 days 1 each 2 due 1;", 1, 0);
        faulty("moor gaps 1 1 days 1 each 2 due 1;", 1, 12);
        faulty("moor gaps 11 days 1 each 2 due 1;", 2, 10);
        faulty("moor gaps 1days1each2due1law all;", 1, 25);
        faulty(MOOR + "lawall;", 1, 32);
        faulty(MOOR + "drive0gap0on0at0sheep1lame1;", 1, 58);
        told(MOOR + "drive0gap0on0at0sheep1lambs1lame;");
    }

    private void placesOfFaults() {
        sentence("FAULTS, the first by its place (a TOKEN's first byte; the end's), of one place the least:");
        faulty("m", 1, 0);
        faulty("  \n m", 1, 4);
        faulty("moor", 1, 4);
        faulty("moor  \n", 1, 7);
        faulty("moor gaps 0 days 0 ?", 2, 10);
        faulty("moor gaps 1 ? days 0", 1, 12);
        faulty(MOOR + "owners 9;?", 2, 39);
        faulty(MOOR + "law nights;owners 9;", 1, 36);
        // owners told already, a 13th drive, a 9th fog, each where it can't stand either
        faulty(MOOR + "owners 1 owners 1;", 1, 41);
        String drives = MOOR + repeat(DRIVE + ";", 11) + DRIVE + " ";
        faulty(drives + DRIVE + ";", 1, drives.length());
        String fogs = MOOR + repeat(FOG, 7) + "fog 0 on 0 misses 2 ";
        faulty(fogs + FOG, 1, fogs.length());
        // a number out of all bounds where none can stand
        faulty("moor 1000", 1, 5);
        faulty(MOOR + "1000", 1, 32);
        faulty(MOOR + "law 1000", 1, 36);
        faulty(MOOR + DRIVE + " lame 1000", 1, 69);
    }

    private void placesOnAFullTape() {
        sentence("(a TOKEN's first byte; the end's)");
        String blanks = repeat(" ", 1600 - 32);
        told(blanks + MOOR);
        told(MOOR + blanks);
        faulty(blanks + " " + MOOR.substring(0, 31), 1, 1600);
        faulty(MOOR + blanks.substring(1) + ";", 1, 1599);
        faulty(MOOR + blanks.substring(1) + "a", 1, 1599);
        faulty(blanks.substring(1) + MOOR + "7", 1, 1599);
        faulty(repeat("x", 1600), 1, 0);
        faulty(repeat(" ", 1599) + "x", 1, 1599);
        HundredthSheep x = new HundredthSheep();
        type(x, repeat("\n", 1600));
        is("moor() of a tape of blanks", x.moor(), 0);
    }

    private void tokensThatCannotStand() {
        sentence("1 a TOKEN that is none, or can't stand there (moor behind the first LINE, another word ahead of it).");
        faulty(MOOR + "moor", 1, 32);
        faulty(MOOR + "law moor", 1, 36);
        faulty("gaps", 1, 0);
        faulty("x moor", 1, 0);
        faulty("7 moor", 1, 0);
        sentence("LINE: moor gaps N days N each N due N | law WORD | owners N | start G is N | lambs from N | drive O gap G on N at N sheep N "
            + "[lambs N] [painted O] [lame] | fog G on N misses N.");
        // ahead of each token of each line a word that stands nowhere, a sign that is none, the end
        String[] lines = {"", "law all ;", "owners 2 ;", "start 0 is 1 ;", "lambs from 0 ;", "fog 0 on 0 misses 2 ;",
            "drive 0 gap 0 on 0 at 0 sheep 1 ;"};
        for (String line : lines) {
            String text = (MOOR.replace(";", " ; ") + line).trim();
            for (int at = 0; at < text.length(); at++) {
                if (at == 0 || text.charAt(at - 1) == ' ') {
                    faulty(text.substring(0, at) + "sheeps " + text.substring(at), 1, at);
                    faulty(text.substring(0, at) + "? " + text.substring(at), 1, at);
                    endsAt(text, at);
                }
            }
        }
    }

    private void endsAt(String text, int at) {
        String before = text.substring(0, at);
        if (before.isEmpty() || before.trim().endsWith(";")) {
            return;
        }
        faulty(before, 1, at);
    }

    private void lettersOfWords() {
        sentence("words (a .. z)");
        String text = MOOR + "owners 2;law gaps;law all;law keep;law clear;law count;law pass;start 0 is 1;lambs from 0;fog 0 on 0 misses 2;"
            + DRIVE + " lambs 1 painted 1 lame;";
        told(text);
        int first = 0;
        for (int at = 0; at < text.length(); at++) {
            boolean letter = Character.isLetter(text.charAt(at));
            first = at == 0 || !Character.isLetter(text.charAt(at - 1)) ? at : first;
            if (letter) {
                faulty(text.substring(0, at) + "q" + text.substring(at + 1), 1, first);
                faulty(text.substring(0, at) + "q" + text.substring(at), 1, first);
            }
        }
    }

    public static void main(String[] args) throws IOException {
        TextTests tests = new TextTests();
        tests.lines();
        tests.firstLine();
        tests.numbersOfTheMoor();
        tests.numbersThatWrapAround();
        tests.gapsAndDays();
        tests.laws();
        tests.owners();
        tests.ownersOfDrives();
        tests.starts();
        tests.lambsFrom();
        tests.numbersOfDrives();
        tests.partsOfDrives();
        tests.fogs();
        tests.howManyDrivesAndFogs();
        tests.tooManyDrivesAndFogs();
        tests.signs();
        tests.longestTokens();
        tests.placesOfFaults();
        tests.placesOnAFullTape();
        tests.tokensThatCannotStand();
        tests.lettersOfWords();
        tests.close();
    }
}
