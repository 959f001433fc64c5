import java.io.IOException;

/** The bounds that the Terms of the document name: each sentence by itself. */
public final class TermTests {
    private static final String MOOR = Trial.MOOR;
    private static final String DRIVE = "drive 0 gap 0 on 0 at 0 sheep 1";
    private static final String FOG = "fog 0 on 0 misses 2;";

    private final Trial trial;

    private TermTests(Trial trial) {
        this.trial = trial;
    }

    private static String repeat(String text, int times) {
        return text.repeat(times);
    }

    private static String moor(int gaps, int days, int each) {
        return "moor gaps " + gaps + " days " + days + " each " + each + " due 1;";
    }

    private static String drive(int owner, int gap, int day, int hour, int sheep) {
        return "drive " + owner + " gap " + gap + " on " + day + " at " + hour + " sheep " + sheep;
    }

    // ---- I: the lines of a text

    private void lines() {
        trial.sentence("MOOR: {LINE ;}.");
        HundredthSheep x = new HundredthSheep();
        trial.is("moor() of no line", x.moor(), 0);
        Trial.type(x, " \n\n  ");
        trial.is("moor() of blanks", x.moor(), 0);
        Trial.type(x, MOOR);
        trial.is("moor() of one line", x.moor(), 1);
        Trial.type(x, MOOR + repeat("law all;", 196));
        trial.is("moor() of as many lines as a tape has room for", x.moor(), 197);
        trial.faulty(";", 1, 0);
        trial.faulty(MOOR + ";", 1, 32);
        trial.faulty(";" + MOOR, 1, 0);
        trial.faulty("moor gaps 1 days 1 each 2 due 1", 1, 31);
        trial.faulty(MOOR + "law all", 1, 39);
    }

    private void firstLine() {
        trial.sentence("moor is the first LINE and no other:");
        String[] others = {"law all;", "owners 1;", "start 0 is 0;", "lambs from 0;", DRIVE + ";", FOG};
        for (String other : others) {
            trial.faulty(other, 1, 0);
            trial.faulty(" " + other + MOOR, 1, 1);
            trial.told(MOOR + other);
            trial.faulty(MOOR + other + MOOR, 1, 32 + other.length());
        }
        trial.faulty(MOOR + MOOR, 1, 32);
    }

    private void numbersOfTheMoor() {
        trial.sentence("gaps 1 .. 4, days 1 .. 9, each 2 .. 100, due 0 .. 999.");
        trial.bounds("moor gaps ", " days 1 each 2 due 1;", 1, 4);
        trial.bounds("moor gaps 1 days ", " each 2 due 1;", 1, 9);
        trial.bounds("moor gaps 1 days 1 each ", " due 1;", 2, 100);
        trial.bounds("moor gaps 1 days 1 each 2 due ", ";", 0, 999);
        HundredthSheep least = trial.told("moor gaps 1 days 1 each 2 due 0;");
        trial.is("count(0)", least.count(0), 1);
        trial.is("count(1)", least.count(1), 1);
        trial.is("law(3, 2)", least.law(3, 2), 2);
        trial.is("law(4, 0)", least.law(4, 0), 0);
        HundredthSheep most = trial.told("moor gaps 4 days 9 each 100 due 999;");
        trial.is("count(0)", most.count(0), 4);
        trial.is("count(1)", most.count(1), 9);
        trial.is("law(3, 2)", most.law(3, 2), 100);
        trial.is("law(4, 0)", most.law(4, 0), 999);
    }

    private void numbersThatWrapAround() {
        trial.sentence("2 a number out of its bounds, not as said;");
        String[] great = {"4294967298", "2147483650", "18446744073709551618", "100000000000000000002", "65538", "258",
            "1" + repeat("0", 1500), repeat("9", 1000)};
        for (String number : great) {
            trial.faulty("moor gaps 1 days 1 each " + number + " due 1;", 2, 24);
            trial.faulty("moor gaps " + number + " days 1 each 2 due 1;", 2, 10);
        }
        HundredthSheep x = trial.told("moor gaps 1 days 1 each " + repeat("0", 1500) + "2 due 1;");
        trial.is("law(3, 2) of a long number", x.law(3, 2), 2);
        trial.told("moor gaps 01 days 009 each 0100 due 000;");
    }

    private void gapsAndDays() {
        trial.sentence("G a GAP, on a DAY (0 .. days less 1).");
        for (int gaps = 1; gaps <= 4; gaps++) {
            String moor = moor(gaps, 1, 2);
            trial.bounds(moor + "start ", " is 0;", 0, gaps - 1);
            trial.bounds(moor + "drive 0 gap ", " on 0 at 0 sheep 1;", 0, gaps - 1);
            trial.bounds(moor + "fog ", " on 0 misses 2;", 0, gaps - 1);
        }
        for (int days = 1; days <= 9; days++) {
            String moor = moor(1, days, 2);
            trial.bounds(moor + "drive 0 gap 0 on ", " at 0 sheep 1;", 0, days - 1);
            trial.bounds(moor + "fog 0 on ", " misses 2;", 0, days - 1);
        }
        HundredthSheep last = trial.told(moor(4, 9, 2) + "drive 0 gap 3 on 8 at 0 sheep 3;fog 3 on 8 misses 2;");
        trial.is("drive(0, 1)", last.drive(0, 1), 3);
        trial.is("drive(0, 2)", last.drive(0, 2), 8);
        trial.is("through(3, 8, 0)", last.through(3, 8, 0), 3);
        trial.is("through(3, 8, 1)", last.through(3, 8, 1), 2);
    }

    private void laws() {
        trial.sentence("WORD: gaps | all | keep | clear | count | pass (by gaps, nights keep, lambs count without; a later one strikes).");
        String[] words = {"gaps", "all", "keep", "clear", "count", "pass"};
        lawsAre("", 0, 0, 0);
        for (int i = 0; i < 6; i++) {
            int[] law = new int[3];
            law[i / 2] = i % 2;
            lawsAre("law " + words[i] + ";", law);
            for (int j = 0; j < 6; j++) {
                int[] later = law.clone();
                later[j / 2] = j % 2;
                lawsAre("law " + words[i] + ";law " + words[j] + ";", later);
            }
        }
        String[] others = {"gap", "gapss", "night", "moor", "law", "lambs", "a", "7", ";", "All", ""};
        for (String other : others) {
            trial.faulty(MOOR + "law " + other, 1, 36);
        }
        trial.faulty(MOOR + "law all clear;", 1, 40);
    }

    private void lawsAre(String told, int... law) {
        HundredthSheep x = trial.told(MOOR + told);
        for (int what = 0; what < 3; what++) {
            trial.is("law(" + what + ", 0) by " + told, x.law(what, 0), law[what]);
        }
    }

    private void owners() {
        trial.sentence("owners 1 .. 5 (1 without), once, ahead of each drive.");
        trial.bounds(MOOR + "owners ", ";", 1, 5);
        trial.is("count(2) without", trial.told(MOOR).count(2), 1);
        trial.is("count(2) of the least", trial.told(MOOR + "owners 1;").count(2), 1);
        trial.is("count(2) of the most", trial.told(MOOR + "owners 5;").count(2), 5);
        String ahead = MOOR + "law all;start 0 is 1;lambs from 0;" + FOG;
        trial.told(ahead + "owners 5;drive 4 gap 0 on 0 at 0 sheep 1;");
        trial.sentence("owners told already, or behind a drive (at it).");
        trial.faulty(MOOR + "owners 1;owners 1;", 2, 41);
        trial.faulty(MOOR + "owners 5;owners 6;", 2, 41);
        trial.faulty(ahead + "owners 5;" + FOG + "owners", 2, ahead.length() + 29);
        trial.faulty(MOOR + DRIVE + ";owners 1;", 2, 64);
        trial.faulty(MOOR + "owners 2;" + DRIVE + ";owners 2;", 2, 73);
    }

    private void ownersOfDrives() {
        trial.sentence("O: an owner 0 .. owners less 1.");
        trial.bounds(MOOR + "drive ", " gap 0 on 0 at 0 sheep 1;", 0, 0);
        for (int owners = 1; owners <= 5; owners++) {
            trial.bounds(MOOR + "owners " + owners + ";drive ", " gap 0 on 0 at 0 sheep 1;", 0, owners - 1);
        }
        trial.bounds(MOOR + "owners 5;drive 2 gap 0 on 0 at 0 sheep 1 painted ", ";", 0, 4);
        trial.bounds(MOOR + "owners 3;drive 1 gap 0 on 0 at 0 sheep 1 painted ", ";", 0, 2);
        trial.bounds(MOOR + "owners 2;drive 1 gap 0 on 0 at 0 sheep 1 painted ", ";", 0, 0);
    }

    private void starts() {
        trial.sentence("start: 0 .. each less 1 (a later one strikes; 0 without; by all that of GAP 0).");
        int[] every = {2, 3, 100};
        for (int each : every) {
            String start = moor(2, 1, each) + "start 1 is ";
            trial.bounds(start, ";", 0, each - 1);
            trial.is("counter of the most", trial.told(start + (each - 1) + ";").counter(1, 0, 0), each - 1);
            trial.is("counter of the least", trial.told(start + "0;").counter(1, 0, 0), 0);
        }
        String moor = moor(3, 1, 9);
        HundredthSheep x = trial.told(moor + "start 1 is 8;start 2 is 7;start 1 is 5;start 2 is 0;");
        trial.is("counter(0, 0, 0) without", x.counter(0, 0, 0), 0);
        trial.is("counter(1, 0, 0) by a later one", x.counter(1, 0, 0), 5);
        trial.is("counter(2, 0, 0) by a later one of 0", x.counter(2, 0, 0), 0);
        HundredthSheep all = trial.told(moor + "law all;start 0 is 4;start 1 is 8;");
        HundredthSheep none = trial.told(moor + "law all;start 1 is 8;");
        for (int gap = 0; gap < 3; gap++) {
            trial.is("counter(" + gap + ", 0, 0) by all", all.counter(gap, 0, 0), 4);
            trial.is("counter(" + gap + ", 0, 0) by all, without", none.counter(gap, 0, 0), 0);
        }
    }

    private void lambsFrom() {
        trial.sentence("lambs from a DAY (a later one strikes; 0 without).");
        for (int days = 1; days <= 9; days++) {
            trial.bounds(moor(1, days, 2) + "lambs from ", ";", 0, days - 1);
        }
        String moor = moor(1, 9, 2);
        trial.is("count(7) without", trial.told(moor).count(7), 0);
        trial.is("count(7) of the last day", trial.told(moor + "lambs from 8;").count(7), 8);
        trial.is("count(7) of a later one", trial.told(moor + "lambs from 8;lambs from 3;").count(7), 3);
        trial.is("count(7) of a later one of 0", trial.told(moor + "lambs from 8;lambs from 0;").count(7), 0);
    }

    private void numbersOfDrives() {
        trial.sentence("at an HOUR 0 .. 23, sheep 1 .. 99, lambs 0 .. 99 (0 without), painted another owner.");
        trial.bounds(MOOR + "drive 0 gap 0 on 0 at ", " sheep 1;", 0, 23);
        trial.bounds(MOOR + "drive 0 gap 0 on 0 at 0 sheep ", ";", 1, 99);
        trial.bounds(MOOR + DRIVE + " lambs ", ";", 0, 99);
        HundredthSheep x = trial.told(moor(4, 9, 2) + "owners 5;drive 0 gap 0 on 0 at 0 sheep 1;"
            + "drive 4 gap 3 on 8 at 23 sheep 99 lambs 99 painted 3 lame;drive 1 gap 0 on 0 at 0 sheep 1 lambs 0 painted 0;");
        int[][] told = {{0, 0, 0, 0, 1, 0, 0, 0}, {4, 3, 8, 23, 99, 99, 3, 1}, {1, 0, 0, 0, 1, 0, 0, 0}};
        for (int i = 0; i < 3; i++) {
            for (int what = 0; what < 8; what++) {
                trial.is("drive(" + i + ", " + what + ")", x.drive(i, what), told[i][what]);
            }
        }
        for (int owner = 0; owner < 5; owner++) {
            String before = MOOR + "owners 5;" + drive(owner, 0, 0, 0, 1) + " painted ";
            for (int by = 0; by < 5; by++) {
                if (by == owner) {
                    trial.faulty(before + by + ";", 2, before.length());
                } else {
                    trial.is("drive(0, 6)", trial.told(before + by + ";").drive(0, 6), by);
                }
            }
        }
    }

    private void partsOfDrives() {
        trial.sentence("drive O gap G on N at N sheep N [lambs N] [painted O] [lame]");
        String before = MOOR + "owners 2;" + DRIVE;
        String[] parts = {" lambs 1", " painted 1", " lame"};
        for (int which = 0; which < 8; which++) {
            String some = "";
            for (int k = 0; k < 3; k++) {
                some += (which >> k) % 2 == 1 ? parts[k] : "";
            }
            HundredthSheep x = trial.told(before + some + ";");
            trial.is("drive(0, 5) of" + some, x.drive(0, 5), which % 2);
            trial.is("drive(0, 6) of" + some, x.drive(0, 6), which / 2 % 2);
            trial.is("drive(0, 7) of" + some, x.drive(0, 7), which / 4);
        }
        for (int first = 0; first < 3; first++) {
            for (int second = 0; second <= first; second++) {
                trial.faulty(before + parts[first] + parts[second] + ";", 1, before.length() + parts[first].length() + 1);
            }
        }
        trial.faulty(before + " lambs;", 1, before.length() + 6);
        trial.faulty(before + " painted;", 1, before.length() + 8);
        trial.faulty(before + " lame 1;", 1, before.length() + 6);
        trial.faulty(before + " 1;", 1, before.length() + 1);
    }

    private void fogs() {
        trial.sentence("misses 2 .. 9 (a later one of that GAP and DAY strikes).");
        trial.bounds(MOOR + "fog 0 on 0 misses ", ";", 2, 9);
        String moor = moor(2, 2, 100) + drive(0, 0, 0, 0, 18) + ";" + drive(0, 1, 0, 0, 18) + ";" + drive(0, 0, 1, 0, 18) + ";";
        HundredthSheep x = trial.told(moor + "fog 0 on 0 misses 2;fog 1 on 0 misses 9;fog 0 on 1 misses 9;");
        trial.is("through(0, 0, 1), 2 missed", x.through(0, 0, 1), 9);
        trial.is("through(1, 0, 1), another gap", x.through(1, 0, 1), 16);
        trial.is("through(0, 1, 1), another day", x.through(0, 1, 1), 16);
        HundredthSheep y = trial.told(moor + "fog 0 on 0 misses 2;fog 0 on 0 misses 9;");
        trial.is("through(0, 0, 1) by a later one", y.through(0, 0, 1), 16);
        trial.is("through(1, 0, 1) without", y.through(1, 0, 1), 18);
    }

    private void howManyDrivesAndFogs() {
        trial.sentence("DRIVES 0 .. 11, FOGS 0 .. 7 are numbered as they stand.");
        HundredthSheep none = trial.told(MOOR);
        trial.is("count(3) of none", none.count(3), 0);
        trial.is("count(4) of none", none.count(4), 0);
        trial.is("drive(0, 4) of none", none.drive(0, 4), -2);
        StringBuilder text = new StringBuilder(moor(2, 4, 2));
        for (int i = 0; i < 12; i++) {
            text.append(drive(0, 0, 0, 23 - i, i + 1)).append(";");
            text.append(i < 8 ? "fog " + i / 4 + " on " + i % 4 + " misses 2;" : "");
        }
        HundredthSheep full = trial.told(text.toString());
        trial.is("count(3) of the most", full.count(3), 12);
        trial.is("count(4) of the most", full.count(4), 8);
        for (int i = 0; i < 12; i++) {
            trial.is("drive(" + i + ", 4)", full.drive(i, 4), i + 1);
        }
        trial.is("drive(12, 4)", full.drive(12, 4), -2);
    }

    private void tooManyDrivesAndFogs() {
        trial.sentence("3 a 13th drive, a 9th fog (one that strikes, too), at its word.");
        String drives = MOOR + repeat(DRIVE + ";", 12);
        trial.told(drives);
        trial.faulty(drives + DRIVE + ";", 3, drives.length());
        trial.faulty(drives + "\n drive", 3, drives.length() + 2);
        trial.faulty(drives + "drive 9", 3, drives.length());
        String fogs = moor(2, 4, 2);
        for (int i = 0; i < 8; i++) {
            fogs += "fog " + i / 4 + " on " + i % 4 + " misses 2;";
        }
        trial.told(fogs);
        trial.faulty(fogs + FOG, 3, fogs.length());
        String same = MOOR + repeat(FOG, 8);
        trial.told(same);
        trial.is("count(4) of struck ones", trial.told(same).count(4), 8);
        trial.faulty(same + FOG, 3, same.length());
        trial.faulty(same + " fog 9", 3, same.length() + 1);
    }

    // ---- I: tokens and faults

    private void signs() {
        trial.sentence("TOKENS, blanks (32, 10) aside, the longest: words (a .. z), numbers (digits), the sign ; .");
        for (int sign = 0; sign < 256; sign++) {
            String behind = MOOR + (char) sign;
            String between = "moor" + (char) sign + "gaps 1 days 1 each 2 due 1;";
            if (sign == 32 || sign == 10) {
                trial.told(behind);
                trial.told(between);
                trial.told((char) sign + MOOR);
            } else {
                boolean letter = sign >= 'a' && sign <= 'z';
                trial.faulty(behind, 1, 32);
                trial.faulty(between, 1, letter ? 0 : 4);
            }
        }
    }

    private void longestTokens() {
        trial.sentence("TOKENS, blanks (32, 10) aside, the longest:");
        trial.told("moor gaps1days1each2due1;");
        trial.told("moor\ngaps\n1\ndays\n1\neach\n2\ndue\n1\n;\nlaw all;law\n\npass ;\n");
        trial.faulty("moorgaps 1 days 1 each 2 due 1;", 1, 0);
        trial.faulty("mo or gaps 1 days 1 each 2 due 1;", 1, 0);
        trial.faulty("moor gaps 1 1 days 1 each 2 due 1;", 1, 12);
        trial.faulty("moor gaps 11 days 1 each 2 due 1;", 2, 10);
        trial.faulty("moor gaps 1days1each2due1law all;", 1, 25);
        trial.faulty(MOOR + "lawall;", 1, 32);
        trial.faulty(MOOR + "drive0gap0on0at0sheep1lame1;", 1, 58);
        trial.told(MOOR + "drive0gap0on0at0sheep1lambs1lame;");
    }

    private void placesOfFaults() {
        trial.sentence("FAULTS, the first by its place (a TOKEN's first byte; the end's), of one place the least:");
        trial.faulty("m", 1, 0);
        trial.faulty("  \n m", 1, 4);
        trial.faulty("moor", 1, 4);
        trial.faulty("moor  \n", 1, 7);
        trial.faulty("moor gaps 0 days 0 ?", 2, 10);
        trial.faulty("moor gaps 1 ? days 0", 1, 12);
        trial.faulty(MOOR + "owners 9;?", 2, 39);
        trial.faulty(MOOR + "law nights;owners 9;", 1, 36);
        // owners told already, a 13th drive, a 9th fog, each where it can't stand either
        trial.faulty(MOOR + "owners 1 owners 1;", 1, 41);
        String drives = MOOR + repeat(DRIVE + ";", 11) + DRIVE + " ";
        trial.faulty(drives + DRIVE + ";", 1, drives.length());
        String fogs = MOOR + repeat(FOG, 7) + "fog 0 on 0 misses 2 ";
        trial.faulty(fogs + FOG, 1, fogs.length());
        // a number out of all bounds where none can stand
        trial.faulty("moor 1000", 1, 5);
        trial.faulty(MOOR + "1000", 1, 32);
        trial.faulty(MOOR + "law 1000", 1, 36);
        trial.faulty(MOOR + DRIVE + " lame 1000", 1, 69);
    }

    private void placesOnAFullTape() {
        trial.sentence("(a TOKEN's first byte; the end's)");
        String blanks = repeat(" ", 1600 - 32);
        trial.told(blanks + MOOR);
        trial.told(MOOR + blanks);
        trial.faulty(blanks + " " + MOOR.substring(0, 31), 1, 1600);
        trial.faulty(MOOR + blanks.substring(1) + ";", 1, 1599);
        trial.faulty(MOOR + blanks.substring(1) + "a", 1, 1599);
        trial.faulty(blanks.substring(1) + MOOR + "7", 1, 1599);
        trial.faulty(repeat("x", 1600), 1, 0);
        trial.faulty(repeat(" ", 1599) + "x", 1, 1599);
        HundredthSheep x = new HundredthSheep();
        Trial.type(x, repeat("\n", 1600));
        trial.is("moor() of a tape of blanks", x.moor(), 0);
    }

    private void tokensThatCannotStand() {
        trial.sentence("1 a TOKEN that is none, or can't stand there (moor behind the first LINE, another word ahead of it).");
        trial.faulty(MOOR + "moor", 1, 32);
        trial.faulty(MOOR + "law moor", 1, 36);
        trial.faulty("gaps", 1, 0);
        trial.faulty("x moor", 1, 0);
        trial.faulty("7 moor", 1, 0);
        // each token of each line put by a word that stands nowhere, by the end, and by a sign that is none
        String[] lines = {"", "law all ;", "owners 2 ;", "start 0 is 1 ;", "lambs from 0 ;", "fog 0 on 0 misses 2 ;",
            "drive 0 gap 0 on 0 at 0 sheep 1 ;"};
        for (String line : lines) {
            String text = (MOOR.replace(";", " ; ") + line).trim();
            for (int at = 0; at < text.length(); at++) {
                if (at == 0 || text.charAt(at - 1) == ' ') {
                    trial.faulty(text.substring(0, at) + "sheeps " + text.substring(at), 1, at);
                    trial.faulty(text.substring(0, at) + "? " + text.substring(at), 1, at);
                    endsAt(text, at);
                }
            }
        }
    }

    private void endsAt(String text, int at) {
        String before = text.substring(0, at);
        if (before.isEmpty() || before.trim().endsWith(";")) {
            return;
        }
        trial.faulty(before, 1, at);
    }

    private void lettersOfWords() {
        trial.sentence("words (a .. z)");
        String text = MOOR + "owners 2;law gaps;law all;law keep;law clear;law count;law pass;start 0 is 1;lambs from 0;fog 0 on 0 misses 2;"
            + DRIVE + " lambs 1 painted 1 lame;";
        trial.told(text);
        int first = 0;
        for (int at = 0; at < text.length(); at++) {
            boolean letter = Character.isLetter(text.charAt(at));
            first = at == 0 || !Character.isLetter(text.charAt(at - 1)) ? at : first;
            if (letter) {
                trial.faulty(text.substring(0, at) + "q" + text.substring(at + 1), 1, first);
                trial.faulty(text.substring(0, at) + "q" + text.substring(at), 1, first);
            }
        }
    }

    // ---- II: who goes when, and what is counted

    private void orderOfGoing() {
        trial.sentence("DRIVES go through by DAYS, HOURS, then GAPS, then numbers;");
        // each of two sheep, so each has one due; told in no order
        HundredthSheep x = trial.told(moor(4, 9, 2) + drive(0, 0, 8, 0, 2) + ";" + drive(0, 3, 0, 0, 2) + ";" + drive(0, 0, 1, 0, 2) + ";"
            + drive(0, 3, 0, 23, 2) + ";" + drive(0, 0, 0, 23, 2) + ";" + drive(0, 0, 0, 0, 2) + ";" + drive(0, 0, 8, 23, 2) + ";"
            + drive(0, 2, 0, 0, 2) + ";" + drive(0, 1, 0, 0, 2) + ";" + drive(0, 3, 0, 22, 2) + ";" + drive(0, 0, 0, 0, 2) + ";"
            + drive(0, 1, 0, 0, 2) + ";");
        int[] order = {5, 10, 8, 11, 7, 1, 9, 4, 3, 2, 0, 6};
        trial.is("dues()", x.dues(), 12);
        for (int i = 0; i < 12; i++) {
            trial.is("due(" + i + ", 4)", x.due(i, 4), order[i]);
        }
        HundredthSheep same = trial.told(moor(1, 1, 2) + repeat(drive(0, 0, 0, 5, 2) + ";", 12));
        for (int i = 0; i < 12; i++) {
            trial.is("due(" + i + ", 4) of one hour", same.due(i, 4), i);
        }
    }

    private void lameOnes() {
        trial.sentence("one that is lame goes an HOUR later (behind 23 at 0 of the next DAY; behind the last DAY never).");
        int[][] when = {{0, 0, 1}, {0, 22, 23}, {0, 23, 24}, {1, 0, 25}, {1, 23, 48}, {2, 22, 71}, {2, 23, -1}};
        for (int[] w : when) {
            HundredthSheep x = trial.told(moor(1, 3, 2) + drive(0, 0, w[0], w[1], 2) + " lame;" + drive(0, 0, w[0], w[1], 1) + ";");
            trial.is("goes(0) of day " + w[0] + " at " + w[1], x.goes(0), w[2]);
            trial.is("goes(1), not lame", x.goes(1), 24 * w[0] + w[1]);
            trial.is("drive(0, 2)", x.drive(0, 2), w[0]);
            trial.is("drive(0, 3)", x.drive(0, 3), w[1]);
        }
        HundredthSheep x = trial.told(moor(1, 1, 2) + drive(0, 0, 0, 23, 99) + " lambs 99 lame;");
        trial.is("dues() of one that never goes", x.dues(), 0);
        trial.is("through(0, 0, 0)", x.through(0, 0, 0), 0);
        trial.is("counter(0, 0, 23)", x.counter(0, 0, 23), 0);
        trial.is("mixed(0, 0)", x.mixed(0, 0), 0);
        trial.is("harm(0)", x.harm(0), 0);
        x.sets(0, 0, 22);
        trial.is("goes(0) of 22", x.goes(0), 23);
        trial.is("through(0, 0, 0) at the last hour", x.through(0, 0, 0), 198);
    }

    private void lambsBehindSheep() {
        trial.sentence("In each its sheep go one behind the other, then its lambs.");
        HundredthSheep x = trial.told(moor(1, 1, 3) + drive(0, 0, 0, 0, 4) + " lambs 3;" + drive(0, 0, 0, 0, 2) + " lambs 1;");
        int[][] due = {{0, 2}, {0, 5}, {1, 1}};
        trial.is("dues()", x.dues(), 3);
        for (int i = 0; i < 3; i++) {
            trial.is("due(" + i + ", 4)", x.due(i, 4), due[i][0]);
            trial.is("due(" + i + ", 5)", x.due(i, 5), due[i][1]);
        }
        HundredthSheep last = trial.told(moor(1, 1, 99) + drive(0, 0, 0, 0, 99) + " lambs 99;");
        trial.is("due(0, 5) of the last sheep", last.due(0, 5), 98);
        trial.is("due(1, 5) of the last lamb", last.due(1, 5), 197);
        HundredthSheep first = trial.told(moor(1, 1, 100) + drive(0, 0, 0, 0, 99) + " lambs 1;");
        trial.is("due(0, 5) of the first lamb", first.due(0, 5), 99);
    }

    private void lambsThatAreCounted() {
        trial.sentence("COUNTED are all sheep, and lambs, if lambs count, and from the DAY on from which they are lambs (ahead of it: not).");
        String some = moor(1, 4, 100) + "lambs from 2;";
        for (int day = 0; day < 4; day++) {
            some += drive(0, 0, day, 0, 3) + " lambs 5;";
        }
        HundredthSheep x = trial.told(some);
        HundredthSheep pass = trial.told(some + "law pass;");
        for (int day = 0; day < 4; day++) {
            trial.is("through(0, " + day + ", 0)", x.through(0, day, 0), 8);
            trial.is("through(0, " + day + ", 1)", x.through(0, day, 1), day < 2 ? 3 : 8);
            trial.is("through(0, " + day + ", 1), lambs pass", pass.through(0, day, 1), 3);
        }
        HundredthSheep lame = trial.told(moor(1, 3, 100) + "lambs from 1;" + drive(0, 0, 0, 23, 1) + " lambs 1 lame;"
            + drive(0, 0, 0, 22, 1) + " lambs 1 lame;");
        trial.is("through(0, 0, 1) on the day ahead", lame.through(0, 0, 1), 1);
        trial.is("through(0, 1, 1) of one that comes late", lame.through(0, 1, 1), 2);
    }

    private void missedInFog() {
        trial.sentence("In a FOG each so-manieth that would be counted at that GAP on that DAY is missed (not counted).");
        int[][] counted = {{2, 1, 1}, {2, 2, 1}, {2, 3, 2}, {2, 4, 2}, {9, 8, 8}, {9, 9, 8}, {9, 10, 9}, {9, 18, 16}, {9, 99, 88}};
        for (int[] c : counted) {
            HundredthSheep x = trial.told(moor(1, 1, 100) + drive(0, 0, 0, 0, c[1]) + ";fog 0 on 0 misses " + c[0] + ";");
            trial.is("through(0, 0, 1) of " + c[1] + " by " + c[0], x.through(0, 0, 1), c[2]);
            trial.is("through(0, 0, 0) of " + c[1], x.through(0, 0, 0), c[1]);
            trial.is("counter(0, 0, 0) of " + c[1] + " by " + c[0], x.counter(0, 0, 0), c[2]);
        }
        // the second and fourth of a day are missed: places 0 and 2 of the first, then 1 of the other
        HundredthSheep x = trial.told(moor(1, 2, 3) + drive(0, 0, 0, 0, 3) + ";" + drive(0, 0, 0, 9, 3) + ";" + drive(0, 0, 1, 9, 2)
            + ";fog 0 on 0 misses 2;fog 0 on 1 misses 2;");
        trial.is("dues()", x.dues(), 1);
        trial.is("due(0, 4)", x.due(0, 4), 1);
        trial.is("due(0, 5)", x.due(0, 5), 1);
        trial.is("counter(0, 1, 9), anew by day", x.counter(0, 1, 9), 1);
        // one on the first day, so the second of the next is missed, not its first
        HundredthSheep anew = trial.told(moor(1, 2, 3) + drive(0, 0, 0, 0, 1) + ";" + drive(0, 0, 1, 0, 3)
            + ";fog 0 on 0 misses 2;fog 0 on 1 misses 2;");
        trial.is("through(0, 1, 1), anew by day", anew.through(0, 1, 1), 2);
        trial.is("dues(), anew by day", anew.dues(), 1);
        trial.is("due(0, 5), anew by day", anew.due(0, 5), 2);
        trial.is("mixed(0, 0), anew by day", anew.mixed(0, 0), 1);
        // lambs that are not counted are not missed either
        HundredthSheep y = trial.told(moor(1, 1, 9) + "law pass;" + drive(0, 0, 0, 0, 1) + " lambs 7;" + drive(0, 0, 0, 1, 2)
            + ";fog 0 on 0 misses 2;");
        trial.is("through(0, 0, 1), lambs pass", y.through(0, 0, 1), 2);
        y.law(2, 0);
        trial.is("through(0, 0, 1), lambs count", y.through(0, 0, 1), 5);
        // by all a fog is one gap's still
        HundredthSheep z = trial.told(moor(2, 1, 9) + "law all;" + drive(0, 0, 0, 0, 3) + ";" + drive(0, 1, 0, 0, 3)
            + ";fog 1 on 0 misses 2;");
        trial.is("counter(0, 0, 0) by all", z.counter(0, 0, 0), 5);
    }

    // ---- III: counters and who pays

    private void counters() {
        trial.sentence("COUNTER: one of each GAP (by all: one for all), from its start on:");
        String text = moor(4, 1, 100) + "start 0 is 10;start 3 is 40;";
        for (int gap = 0; gap < 4; gap++) {
            text += drive(0, gap, 0, gap, gap + 1) + ";";
        }
        HundredthSheep x = trial.told(text);
        int[] behind = {11, 2, 3, 44};
        for (int gap = 0; gap < 4; gap++) {
            trial.is("counter(" + gap + ", 0, 23)", x.counter(gap, 0, 23), behind[gap]);
        }
        x.law(0, 1);
        int[] all = {11, 13, 16, 20};
        for (int gap = 0; gap < 4; gap++) {
            for (int hour = 0; hour < 4; hour++) {
                trial.is("counter(" + gap + ", 0, " + hour + ") by all", x.counter(gap, 0, hour), all[hour]);
            }
        }
    }

    private void eachOrMore() {
        trial.sentence("each that is counted is one more; if that is each or more, it is DUE:");
        int[] every = {2, 3, 50, 99};
        for (int each : every) {
            duesOf(each, 0, each - 1, 0);
            duesOf(each, 0, each, 1);
            duesOf(each, each - 1, 1, 1);
            duesOf(each, each - 2, 1, 0);
            duesOf(each, 1, each - 2 > 0 ? each - 2 : 1, each == 2 ? 1 : 0);
        }
        duesOf(50, 0, 99, 1);
        duesOf(49, 0, 98, 2);
        duesOf(2, 0, 99, 49);
        duesOf(2, 1, 99, 50);
        duesOf(100, 0, 99, 0);
        duesOf(100, 1, 99, 1);
        // more than each: a law that came later
        HundredthSheep x = trial.told(moor(1, 1, 100) + "start 0 is 99;" + drive(0, 0, 0, 0, 7) + ";");
        int[][] later = {{100, 1, 6}, {99, 1, 6}, {8, 1, 6}, {7, 1, 6}, {6, 2, 0}, {5, 2, 1}, {2, 4, 0}};
        for (int[] law : later) {
            x.law(3, law[0]);
            trial.is("dues() by each " + law[0], x.dues(), law[1]);
            trial.is("due(0, 5) by each " + law[0], x.due(0, 5), 0);
            trial.is("counter(0, 0, 0) by each " + law[0], x.counter(0, 0, 0), law[2]);
        }
    }

    private void duesOf(int each, int start, int sheep, int dues) {
        String text = moor(1, 1, each) + "start 0 is " + start + ";" + drive(0, 0, 0, 0, sheep) + ";";
        HundredthSheep x = trial.told(text);
        trial.is("dues() of " + text, x.dues(), dues);
        trial.is("counter(0, 0, 0) of " + text, x.counter(0, 0, 0), start + sheep - each * dues);
    }

    private void whoPays() {
        trial.sentence("who pays is the owner of its DRIVE, or by whom it is painted: so much as due; the COUNTER is 0 then.");
        int[] dues = {0, 1, 999};
        for (int due : dues) {
            HundredthSheep x = trial.told("moor gaps 1 days 1 each 2 due " + due + ";owners 5;" + drive(4, 0, 0, 0, 2) + " painted 3;"
                + drive(2, 0, 0, 1, 4) + ";");
            int[] paid = {0, 0, 2 * due, due, 0};
            for (int owner = 0; owner < 5; owner++) {
                trial.is("paid(" + owner + ") of " + due, x.paid(owner), paid[owner]);
            }
            trial.is("due(0, 3)", x.due(0, 3), 3);
            trial.is("due(1, 3)", x.due(1, 3), 2);
            trial.is("counter(0, 0, 0)", x.counter(0, 0, 0), 0);
        }
    }

    private void nights() {
        trial.sentence("If nights clear, it is 0 ahead of each DAY but the first.");
        HundredthSheep x = trial.told(moor(2, 4, 9) + "law clear;start 0 is 5;start 1 is 7;" + drive(0, 0, 0, 23, 2) + ";"
            + drive(0, 0, 2, 1, 3) + ";");
        int[][] behind = {{0, 0, 0, 5}, {0, 0, 22, 5}, {0, 0, 23, 7}, {0, 1, 0, 0}, {0, 1, 23, 0}, {0, 2, 0, 0}, {0, 2, 1, 3},
            {0, 2, 23, 3}, {0, 3, 0, 0}, {1, 0, 0, 7}, {1, 0, 23, 7}, {1, 1, 0, 0}, {1, 3, 23, 0}};
        for (int[] b : behind) {
            trial.is("counter(" + b[0] + ", " + b[1] + ", " + b[2] + ")", x.counter(b[0], b[1], b[2]), b[3]);
        }
        trial.is("left(0)", x.left(0), 9);
        x.law(0, 1);
        trial.is("counter(1, 0, 23) by all", x.counter(1, 0, 23), 7);
        trial.is("counter(1, 1, 0) by all", x.counter(1, 1, 0), 0);
        x.law(1, 0);
        trial.is("counter(1, 1, 0), nights keep", x.counter(1, 1, 0), 7);
        HundredthSheep night = trial.told(moor(1, 2, 3) + "law clear;" + drive(0, 0, 0, 0, 1) + ";" + drive(0, 0, 1, 23, 4) + ";");
        trial.is("due(0, 5), nights clear", night.due(0, 5), 2);
        trial.is("left(0), nights clear", night.left(0), 2);
        trial.is("mixed(0, 0), nights clear", night.mixed(0, 0), 1);
        night.law(1, 0);
        trial.is("due(0, 5), nights keep", night.due(0, 5), 1);
        trial.is("left(0), nights keep", night.left(0), 1);
        HundredthSheep one = trial.told(moor(1, 1, 9) + "law clear;start 0 is 5;");
        trial.is("counter(0, 0, 0) of the only day", one.counter(0, 0, 0), 5);
    }

    // ---- IV: where a drive best goes

    private void bests() {
        trial.sentence("BEST: of all GAPS and HOURS (the same DAY) those by which the owner of the DRIVE pays least in all; the first: "
            + "GAP 0 first, then HOUR 0.");
        HundredthSheep all = trial.told(moor(4, 1, 2) + drive(0, 3, 0, 23, 1) + ";");
        bestIs(all, 0, 0, 0, 0);
        // he pays at the first three gaps at any hour, and at the last but for hour 23, when another has gone
        String full = moor(4, 1, 3) + "owners 2;start 0 is 2;start 1 is 2;start 2 is 2;start 3 is 2;" + drive(0, 0, 0, 0, 1) + ";";
        HundredthSheep last = trial.told(full + drive(1, 3, 0, 22, 1) + ";");
        bestIs(last, 0, 0, 3, 23);
        HundredthSheep middle = trial.told(full + drive(1, 2, 0, 4, 1) + ";" + drive(1, 3, 0, 4, 1) + ";");
        bestIs(middle, 0, 0, 2, 5);
        // in one hour the lesser number goes first, so it is only behind 4 that this one pays nothing
        HundredthSheep number = trial.told(moor(1, 1, 3) + "owners 2;start 0 is 2;" + drive(1, 0, 0, 4, 1) + ";" + drive(0, 0, 0, 0, 1) + ";");
        bestIs(number, 1, 0, 0, 4);
        bestIs(trial.told(moor(4, 2, 2) + drive(0, 3, 0, 23, 1) + " lame;"), 0, 0, 0, 0);
        // one that is lame comes behind the night that clears
        bestIs(trial.told(moor(1, 2, 2) + "law clear;owners 2;" + drive(1, 0, 0, 0, 1) + ";" + drive(0, 0, 0, 5, 1) + " lame;"), 1, 0, 0, 23);
        // on the other day he would pay nothing, but it stays on its own
        HundredthSheep day = trial.told(moor(1, 2, 2) + "law clear;start 0 is 1;" + drive(0, 0, 0, 7, 1) + ";");
        bestIs(day, 0, 1, 0, 0);
    }

    private void bestIs(HundredthSheep x, int drive, int pays, int gap, int hour) {
        trial.is("best(" + drive + ", 0)", x.best(drive, 0), pays);
        trial.is("best(" + drive + ", 1)", x.best(drive, 1), gap);
        trial.is("best(" + drive + ", 2)", x.best(drive, 2), hour);
    }

    private void splits() {
        trial.sentence("SPLIT: so many sheep (1 .. all less 1) stay as told, the others and the lambs are a DRIVE told last, painted, lame "
            + "likewise, to any GAP, at any HOUR of that DAY, by which he pays least; the first: fewest that stay, then GAP, HOUR.");
        splitIs(trial.told(moor(1, 1, 100) + drive(0, 0, 0, 5, 2) + ";"), 0, 0, 1, 0, 0);
        splitIs(trial.told(moor(4, 1, 100) + drive(0, 3, 0, 5, 99) + ";"), 0, 0, 1, 0, 0);
        // gap 1 has room for one that is not due, or for 97 less than all
        splitIs(trial.told(moor(2, 1, 99) + "start 1 is 97;" + drive(0, 0, 0, 5, 99) + ";"), 0, 0, 98, 1, 0);
        splitIs(trial.told(moor(2, 1, 99) + drive(0, 0, 0, 5, 99) + ";"), 0, 0, 1, 1, 0);
        // the lambs go too: with one sheep they are three
        splitIs(trial.told(moor(2, 1, 5) + "start 1 is 1;" + drive(0, 0, 0, 5, 4) + " lambs 2;"), 0, 0, 3, 1, 0);
        // if all sheep stayed, the lamb would not be due at gap 1
        splitIs(trial.told(moor(2, 1, 3) + "start 1 is 1;" + drive(0, 0, 0, 5, 2) + " lambs 1;"), 0, 1, 1, 0, 0);
        // one of the two pays wherever the other goes; then the fewest stay, and the first gap and hour
        splitIs(trial.told(moor(1, 1, 2) + "start 0 is 0;" + drive(0, 0, 0, 5, 2) + ";"), 0, 1, 1, 0, 0);
        // painted: another pays, so he pays nothing at once
        splitIs(trial.told(moor(2, 1, 2) + "owners 2;" + drive(0, 0, 0, 5, 9) + " painted 1;"), 0, 0, 1, 0, 0);
        // lame: behind 23 the others never come
        splitIs(trial.told(moor(1, 1, 2) + drive(0, 0, 0, 5, 3) + " lame;"), 0, 0, 1, 0, 23);
        splitIs(trial.told(moor(1, 1, 2) + drive(0, 0, 0, 5, 3) + ";"), 0, 1, 1, 0, 0);
    }

    private void splitIs(HundredthSheep x, int drive, int pays, int stay, int gap, int hour) {
        trial.is("split(" + drive + ", 0)", x.split(drive, 0), pays);
        trial.is("split(" + drive + ", 1)", x.split(drive, 1), stay);
        trial.is("split(" + drive + ", 2)", x.split(drive, 2), gap);
        trial.is("split(" + drive + ", 3)", x.split(drive, 3), hour);
    }

    private void splitToldLast() {
        trial.sentence("are a DRIVE told last,");
        // in their hour: one stays (2), the other drive's is due (0), and only then the others go
        HundredthSheep x = trial.told(moor(1, 1, 3) + "owners 2;start 0 is 1;" + drive(0, 0, 0, 0, 2) + ";" + drive(1, 0, 0, 0, 1) + ";");
        splitIs(x, 0, 0, 1, 0, 0);
        HundredthSheep twelve = trial.told("moor gaps 1 days 1 each 2 due 1;owners 2;" + repeat(drive(1, 0, 0, 0, 2) + ";", 11)
            + drive(0, 0, 0, 0, 2) + ";");
        splitIs(twelve, 11, 1, 1, 0, 0);
    }

    // ---- V: orders

    private static final String GOERS = drive(0, 0, 1, 23, 2) + ";" + drive(1, 0, 1, 0, 1) + ";" + drive(2, 0, 0, 23, 1) + " lame;"
        + drive(3, 0, 1, 23, 3) + " lame;";

    private void orders() {
        trial.sentence("ORDERS: all that go through that GAP on that DAY, whatever their HOURS, one DRIVE behind the other");
        String moor = moor(2, 2, 3) + "owners 4;";
        HundredthSheep x = trial.told(moor + GOERS + drive(3, 1, 1, 5, 3) + ";" + drive(3, 0, 0, 5, 3) + ";");
        ordersAre(x, 4, 1, 1, 0);
        trial.sentence("the COUNTER as it is ahead of them.");
        ordersAre(trial.told(moor + "start 0 is 1;" + GOERS), 4, 1, 1, 0);
        HundredthSheep second = trial.told(moor + "start 0 is 1;" + GOERS);
        Trial.rowOf(second, 0, 2);
        trial.is("order(0, 0, 1, 0) by a start", second.order(0, 0, 1, 0), 1);
        HundredthSheep day = trial.told(moor + GOERS + drive(3, 0, 0, 22, 1) + ";");
        Trial.rowOf(day, 0, 2);
        trial.is("order(0, 0, 1, 0) by the day ahead", day.order(0, 0, 1, 0), 1);
        day.law(1, 1);
        trial.is("order(0, 0, 1, 0), nights clear", day.order(0, 0, 1, 0), 0);
        trial.sentence("by all: those at other GAPS on that DAY go ahead of these");
        HundredthSheep all = trial.told(moor + "law all;" + GOERS + drive(3, 1, 1, 23, 1) + ";" + drive(3, 1, 1, 23, 1) + " lame;");
        Trial.rowOf(all, 0, 2);
        trial.is("order(0, 0, 1, 0) by all", all.order(0, 0, 1, 0), 1);
        all.law(0, 0);
        trial.is("order(0, 0, 1, 0) by gaps", all.order(0, 0, 1, 0), 0);
    }

    private void ordersAre(HundredthSheep x, int... many) {
        for (int owner = 0; owner < 4; owner++) {
            Trial.rowOf(x, 0, owner);
            trial.is("orders(0, 0, 1) of " + owner, x.orders(0, 0, 1), many[owner]);
        }
        x.row(0, 0, 0);
        trial.is("orders(0, 0, 1) of nobody", x.orders(0, 0, 1), 0);
    }

    private void ordersInFog() {
        trial.sentence("(all else as it is;");
        // of four the second and fourth are missed, the third is due: D0 D1 D2 has D1 there, D0 D2 D1 has D2, all others D0
        HundredthSheep x = trial.told(moor(1, 2, 2) + "owners 4;" + GOERS + "fog 0 on 1 misses 2;fog 0 on 0 misses 2;");
        ordersAre(x, 4, 1, 1, 0);
        // the same on the last day, from which on lambs are lambs: the third is D1's sheep, or D0's first
        HundredthSheep last = trial.told(moor(1, 9, 3) + "owners 2;start 0 is 1;lambs from 8;" + drive(0, 0, 8, 0, 2) + ";"
            + drive(1, 0, 8, 0, 1) + " lambs 1;fog 0 on 8 misses 2;");
        for (int owner = 0; owner < 2; owner++) {
            Trial.rowOf(last, 0, owner);
            trial.is("orders(0, 0, 8) of " + owner, last.orders(0, 0, 8), 1);
            trial.is("order(0, 0, 8, 0) of " + owner, last.order(0, 0, 8, 0), 1 - owner);
        }
    }

    // ---- VI: draws

    private void draws() {
        trial.sentence("DRAWS: x becomes (1103515245 x + 12345) modulo 2,147,483,648 (at first it is the seed); a draw of n: x / 65536, cut, modulo n.");
        // two that change places if the draw of 2 is 0; the first is due
        HundredthSheep x = trial.told(moor(1, 1, 2) + "owners 2;start 0 is 1;" + drive(0, 0, 0, 0, 1) + ";" + drive(1, 0, 0, 0, 1) + ";");
        int[][] draw = {{0, 0}, {1, 0}, {2, 0}, {3, 1}, {4, 1}, {5, 1}, {1000000000, 0}, {1999999999, 1}, {2000000000, 0}};
        for (int[] d : draw) {
            trial.is("mixed(" + d[0] + ", 0)", x.mixed(d[0], 0), d[1]);
            trial.is("mixed(" + d[0] + ", 1)", x.mixed(d[0], 1), 1 - d[1]);
        }
    }

    private void places() {
        trial.sentence("for each place from the last down to the second (1): a draw of that place and one more: these two change places.");
        // seeds whose draws of 3 and 2 are 0 0, 2 0, 2 1, 1 1, 1 0 and 0 1, with the order that comes of them
        int[][] orders = {{0, 1, 2, 0}, {1, 1, 0, 2}, {2, 0, 1, 2}, {5, 0, 2, 1}, {1999999981, 2, 0, 1}, {1999999999, 2, 1, 0}};
        for (int start = 1; start <= 3; start++) {
            HundredthSheep x = trial.told(moor(1, 1, 4) + "owners 3;start 0 is " + start + ";" + drive(0, 0, 0, 9, 1) + ";"
                + drive(1, 0, 0, 9, 1) + ";" + drive(2, 0, 0, 9, 1) + ";");
            for (int[] order : orders) {
                for (int owner = 0; owner < 3; owner++) {
                    // the start is such that the beast at place 3 less the start is due
                    trial.is("mixed(" + order[0] + ", " + owner + ") from " + start, x.mixed(order[0], owner),
                        order[1 + 3 - start] == owner ? 1 : 0);
                }
            }
        }
    }

    private void flocks() {
        trial.sentence("(GAPS and HOURS in order.)");
        // four flocks of two and one of a single beast that draws nothing; the first of each flock is due
        HundredthSheep x = trial.told(moor(2, 2, 2) + "owners 5;start 0 is 1;start 1 is 1;" + drive(3, 0, 1, 0, 1) + ";" + drive(1, 1, 0, 0, 1)
            + ";" + drive(0, 0, 0, 0, 1) + ";" + drive(2, 0, 0, 1, 1) + ";" + drive(4, 0, 0, 1, 1) + ";" + drive(4, 0, 0, 0, 1) + ";"
            + drive(4, 0, 1, 0, 1) + ";" + drive(4, 1, 0, 0, 1) + ";" + drive(4, 1, 0, 23, 1) + " painted 3;");
        // that single one, at gap 1 at 23, is due too and its payer is 3
        int[][] draw = {{0, 0, 0, 0, 1}, {1, 0, 0, 1, 1}, {2, 0, 1, 1, 0}, {3, 1, 1, 1, 0}, {4, 1, 0, 1, 1}, {2000000000, 0, 1, 1, 1}};
        for (int[] d : draw) {
            int[] paid = {d[1], d[2], d[3], d[4] + 1, 4 - d[1] - d[2] - d[3] - d[4]};
            for (int owner = 0; owner < 5; owner++) {
                trial.is("mixed(" + d[0] + ", " + owner + ")", x.mixed(d[0], owner), paid[owner]);
            }
        }
    }

    private void lambsInFlocks() {
        trial.sentence("MIXED: all beasts that go through one GAP in one HOUR of a DAY, DRIVE by DRIVE as they would:");
        // a sheep and a lamb of 0, a sheep of 1; the first that is counted is due
        HundredthSheep x = trial.told(moor(1, 1, 2) + "owners 2;start 0 is 1;law pass;" + drive(0, 0, 0, 0, 1) + " lambs 1;"
            + drive(1, 0, 0, 0, 1) + ";");
        // seeds by which they go as lamb, 1, 0; lamb, 0, 1; 0, lamb, 1; 0, 1, lamb; 1, 0, lamb; 1, lamb, 0
        int[][] first = {{0, 1, 0}, {1, 0, 0}, {2, 0, 0}, {5, 0, 0}, {1999999981, 1, 1}, {1999999999, 1, 1}};
        for (int[] f : first) {
            x.law(2, 1);
            trial.is("mixed(" + f[0] + ", 1), lambs pass", x.mixed(f[0], 1), f[1]);
            trial.is("mixed(" + f[0] + ", 0), lambs pass", x.mixed(f[0], 0), 1 - f[1]);
            x.law(2, 0);
            // the third is due too if lambs count
            trial.is("mixed(" + f[0] + ", 0) and 1, lambs count", x.mixed(f[0], 0) + x.mixed(f[0], 1), 2);
        }
        trial.is("mixed(0, 0), the lamb and the last", x.mixed(0, 0), 2);
        trial.is("mixed(1, 0), the lamb", x.mixed(1, 0), 1);
        HundredthSheep day = trial.told(moor(1, 2, 9) + "lambs from 1;" + drive(0, 0, 0, 0, 1) + " lambs 8;" + drive(0, 0, 1, 0, 1) + " lambs 7;");
        trial.is("mixed(0, 0), ahead of the day", day.mixed(0, 0), 1);
        day.law(3, 10);
        trial.is("mixed(0, 0), one too few", day.mixed(0, 0), 0);
    }

    private void ofTexts() {
        lines();
        firstLine();
        numbersOfTheMoor();
        numbersThatWrapAround();
        gapsAndDays();
        laws();
        owners();
        ownersOfDrives();
        starts();
        lambsFrom();
        numbersOfDrives();
        partsOfDrives();
        fogs();
        howManyDrivesAndFogs();
        tooManyDrivesAndFogs();
    }

    private void ofFaults() {
        signs();
        longestTokens();
        placesOfFaults();
        placesOnAFullTape();
        tokensThatCannotStand();
        lettersOfWords();
    }

    private void ofCounting() {
        orderOfGoing();
        lameOnes();
        lambsBehindSheep();
        lambsThatAreCounted();
        missedInFog();
        counters();
        eachOrMore();
        whoPays();
        nights();
    }

    private void ofThoughts() {
        bests();
        splits();
        splitToldLast();
        orders();
        ordersInFog();
        draws();
        places();
        flocks();
        lambsInFlocks();
    }

    public static void main(String[] args) throws IOException {
        Trial trial = new Trial();
        TermTests tests = new TermTests(trial);
        tests.ofTexts();
        tests.ofFaults();
        tests.ofCounting();
        tests.ofThoughts();
        trial.close();
    }
}
