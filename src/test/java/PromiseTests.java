import java.io.IOException;

/** Each promise by itself: ordinary inputs, the edges that the document names, wrong inputs. */
public final class PromiseTests extends Trial {
    private PromiseTests() throws IOException {
        super();
    }

    // counted by hand; see dues() for who pays when
    private static final String VALLEY =
        "moor gaps 2 days 2 each 5 due 7;\n"
        + "owners 3;\n"
        + "start 1 is 4;\n"
        + "drive 0 gap 0 on 0 at 8 sheep 4 lambs 2;\n"
        + "drive 1 gap 0 on 0 at 9 sheep 6;\n"
        + "drive 2 gap 1 on 0 at 8 sheep 3 painted 0;\n"
        + "drive 1 gap 0 on 1 at 23 sheep 5 lame;\n"
        + "drive 2 gap 0 on 0 at 23 sheep 7 lame;\n"
        + "fog 0 on 1 misses 3;";

    // two owners who would each better go ahead of the other
    private static final String RIVALS =
        "moor gaps 2 days 1 each 10 due 5; owners 2;"
        + "drive 0 gap 0 on 0 at 8 sheep 9;"
        + "drive 1 gap 0 on 0 at 9 sheep 3;";

    private static final String THREE =
        "moor gaps 1 days 1 each 5 due 1; owners 3;"
        + "drive 0 gap 0 on 0 at 3 sheep 4;"
        + "drive 1 gap 0 on 0 at 2 sheep 3;"
        + "drive 2 gap 0 on 0 at 1 sheep 3 painted 1;";

    private void fresh() {
        about("1 new");
        HundredthSheep x = new HundredthSheep();
        is("count(6)", x.count(6), 0);
        is("dues()", x.dues(), -2);
        is("drive(0, 0)", x.drive(0, 0), -2);
        is("NONE", HundredthSheep.NONE, -1);
    }

    private void tape() {
        about("2 feed");
        HundredthSheep x = new HundredthSheep();
        for (int i = 1; i <= 80; i++) {
            is("feed", x.feed(0, 0, 0, 0, 0), 20 * i);
        }
        is("feed beyond", x.feed(0, 0, 0, 0, 0), -1);
        is("count(6)", x.count(6), 1600);
        about("3 end");
        is("end(1601)", x.end(1601), -1);
        is("end(-1)", x.end(-1), -1);
        is("end(1600)", x.end(1600), 1600);
        is("end(1581)", x.end(1581), 1581);
        is("feed to 1601", x.feed(0, 0, 0, 0, 0), -1);
        is("end(1580)", x.end(1580), 1580);
        is("feed to 1600", x.feed(0, 0, 0, 0, 0), 1600);
        is("end(0)", x.end(0), 0);
        is("end(1)", x.end(1), -1);
        // bytes of one number come highest first
        x.feed(0x6d6f6f72, 0x20676170, 0x73203120, 0x64617973, 0x20312065);
        x.feed(0x61636820, 0x32206475, 0x6520313b, 0, 0);
        is("end(32)", x.end(32), 32);
        is("moor()", x.moor(), 1);
    }

    private void reading() {
        about("4 moor");
        HundredthSheep x = new HundredthSheep();
        is("moor()", x.moor(), 0);
        type(x, VALLEY);
        is("moor()", x.moor(), 9);
        is("count(6)", x.count(6), 0);
        is("dues()", x.dues(), 4);
        type(x, "moor gaps 1");
        is("moor()", x.moor(), -4);
        is("dues()", x.dues(), 4);
        is("count(6) behind a fault", x.count(6), 11);
        is("moor() again", x.moor(), -4);
        x.end(0);
        type(x, " \n ");
        is("moor() of blanks", x.moor(), 0);
        is("dues()", x.dues(), -2);
        for (int what = 0; what < 6; what++) {
            is("count(" + what + ")", x.count(what), 0);
        }
        is("paid(0)", x.paid(0), -2);
        is("pays(0, 0)", x.pays(0, 0), -2);
        type(x, MOOR);
        is("moor() of one line", x.moor(), 1);
        is("dues()", x.dues(), 0);
        is("rest()", x.rest(), -1);
        is("left(0)", x.left(0), 2);
        type(x, "moor\n\ngaps 04days 009each100due 0;law all;law gaps;law clear;law keep;law pass;law count;");
        is("moor() of the longest tokens", x.moor(), 7);
        is("count(0)", x.count(0), 4);
        is("count(1)", x.count(1), 9);
        type(x, MOOR + "owners 5;" + repeat("drive 4 gap 0 on 0 at 23 sheep 99 lambs 99 painted 0 lame;", 12)
            + repeat("fog 0 on 0 misses 9;", 8) + "lambs from 0;start 0 is 1;");
        is("moor() of all there can be", x.moor(), 24);
        type(x, MOOR + "start 0 is 1;start 0 is 0;lambs from 0;law pass;law count;drive 0 gap 0 on 0 at 0 sheep 1 lambs 0;"
            + "fog 0 on 0 misses 2;fog 0 on 0 misses 9;");
        is("moor() with later ones that strike", x.moor(), 9);
        is("dues()", x.dues(), 0);
        is("count(4)", x.count(4), 2);
    }

    private void faults() {
        about("5 fault");
        HundredthSheep x = new HundredthSheep();
        is("fault(0)", x.fault(0), 0);
        is("fault(1)", x.fault(1), -1);
        is("fault(2)", x.fault(2), -1);
        is("fault(-1)", x.fault(-1), -1);
        type(x, "law");
        x.moor();
        is("fault(0)", x.fault(0), 1);
        is("fault(2)", x.fault(2), -1);
        x.end(0);
        type(x, MOOR);
        x.moor();
        is("fault(0) behind a good one", x.fault(0), 0);
        is("fault(1) behind a good one", x.fault(1), -1);
        faulty("law all;" + MOOR, 1, 0);
        faulty(";", 1, 0);
        faulty(" 7", 1, 1);
        faulty("moorgaps 1", 1, 0);
        faulty("Moor", 1, 0);
        faulty("moor\tgaps", 1, 4);
        faulty("moor gaps", 1, 9);
        faulty("moor gaps ", 1, 10);
        faulty("moor gaps days", 1, 10);
        faulty("moor gaps 0 ?", 2, 10);
        faulty("moor gaps 5", 2, 10);
        faulty("moor gaps 1 days 10", 2, 17);
        faulty("moor gaps 1 days 0", 2, 17);
        faulty("moor gaps 1 days 1 each 1", 2, 24);
        faulty("moor gaps 1 days 1 each 101", 2, 24);
        faulty("moor gaps 1 days 1 each 4294967298", 2, 24);
        faulty("moor gaps 1 days 1 each 2 due 1000", 2, 30);
        faulty("moor gaps 1 days 1 each 2 due 1", 1, 31);
        faulty(MOOR + "moor", 1, 32);
        faulty(MOOR + ";", 1, 32);
        faulty(MOOR + (char) 200, 1, 32);
        faulty(MOOR + "law none", 1, 36);
        faulty(MOOR + "law all", 1, 39);
        faulty(MOOR + "lawz all;", 1, 32);
        faulty(MOOR + "xaw all;", 1, 32);
        faulty(MOOR + "laws all;", 1, 32);
        faulty(MOOR + "owners 6", 2, 39);
        faulty(MOOR + "owners 0", 2, 39);
        faulty(MOOR + "owners 1;owners", 2, 41);
        faulty(MOOR + "drive 0 gap 0 on 0 at 0 sheep 1;owners", 2, 64);
        faulty(MOOR + "start 1 is", 2, 38);
        faulty(MOOR + "start 0 is 2", 2, 43);
        faulty(MOOR + "lambs from 1", 2, 43);
        faulty(MOOR + "lambs 1", 1, 38);
    }

    private void faultsOfDrives() {
        String drive = "drive 0 gap 0 on 0 at 0 sheep 1";
        faulty(MOOR + "drive 1", 2, 38);
        faulty(MOOR + "drive 0 gap 1", 2, 44);
        faulty(MOOR + "drive 0 gap 0 on 1", 2, 49);
        faulty(MOOR + "drive 0 gap 0 on 0 at 24", 2, 54);
        faulty(MOOR + "drive 0 gap 0 on 0 at 0 sheep 0", 2, 62);
        faulty(MOOR + "drive 0 gap 0 on 0 at 0 sheep 100", 2, 62);
        faulty(MOOR + drive + " lambs 100", 2, 70);
        faulty(MOOR + drive + " painted 0", 2, 72);
        faulty(MOOR + drive + " painted 1", 2, 72);
        faulty(MOOR + drive + " painted lame", 1, 72);
        faulty(MOOR + drive + " lame lambs", 1, 69);
        faulty(MOOR + drive + " lame lame", 1, 69);
        faulty(MOOR + repeat(drive + ";", 12) + "drive", 3, 416);
        faulty(MOOR + repeat("fog 0 on 0 misses 2;", 8) + "fog", 3, 192);
        faulty(MOOR + "fog 1", 2, 36);
        faulty(MOOR + "fog 0 on 1", 2, 41);
        faulty(MOOR + "fog 0 on 0 misses 1", 2, 50);
        faulty(MOOR + "fog 0 on 0 misses 10", 2, 50);
        faulty(MOOR + "fog 0 on 0 misses 2", 1, 51);
    }

    private void drives() {
        about("6 drive");
        HundredthSheep x = told(VALLEY);
        int[] first = {0, 0, 0, 8, 4, 2, 0, 0};
        int[] third = {2, 1, 0, 8, 3, 0, 0, 0};
        int[] fourth = {1, 0, 1, 23, 5, 0, 1, 1};
        for (int what = 0; what < 8; what++) {
            is("drive(0, " + what + ")", x.drive(0, what), first[what]);
            is("drive(2, " + what + ")", x.drive(2, what), third[what]);
            is("drive(3, " + what + ")", x.drive(3, what), fourth[what]);
        }
        is("drive(5, 0)", x.drive(5, 0), -2);
        is("drive(-1, 0)", x.drive(-1, 0), -2);
        is("drive(0, 8)", x.drive(0, 8), -2);
        is("drive(0, -1)", x.drive(0, -1), -2);
        about("7 goes");
        is("goes(0)", x.goes(0), 8);
        is("goes(3)", x.goes(3), -1);
        is("goes(4)", x.goes(4), 24);
        is("goes(5)", x.goes(5), -2);
        is("goes(-1)", x.goes(-1), -2);
        about("9 sets");
        is("sets(4, 1, 22)", x.sets(4, 1, 22), 23);
        is("goes(4)", x.goes(4), 23);
        is("drive(4, 1)", x.drive(4, 1), 1);
        is("drive(4, 3)", x.drive(4, 3), 22);
        is("sets(4, 0, 0)", x.sets(4, 0, 0), 122);
        is("sets(4, 2, 0)", x.sets(4, 2, 0), -2);
        is("sets(4, -1, 0)", x.sets(4, -1, 0), -2);
        is("sets(4, 0, 24)", x.sets(4, 0, 24), -2);
        is("sets(4, 0, -1)", x.sets(4, 0, -1), -2);
        is("sets(5, 0, 0)", x.sets(5, 0, 0), -2);
        is("goes(4)", x.goes(4), 1);
    }

    private void laws() {
        about("8 law");
        HundredthSheep x = told(VALLEY);
        int[] was = {0, 0, 0, 5, 7};
        int[] least = {0, 0, 0, 2, 0};
        int[] most = {1, 1, 1, 100, 999};
        for (int what = 0; what < 5; what++) {
            is("law below", x.law(what, least[what] - 1), -2);
            is("law above", x.law(what, most[what] + 1), -2);
            is("law least", x.law(what, least[what]), was[what]);
            is("law most", x.law(what, most[what]), least[what]);
            is("law back", x.law(what, was[what]), most[what]);
        }
        is("law(5, 0)", x.law(5, 0), -2);
        is("law(-1, 0)", x.law(-1, 0), -2);
        // lambs that pass: 4 go by, then D1's first is the fifth, its last the tenth
        x.law(2, 1);
        is("due(0, 4)", x.due(0, 4), 2);
        is("due(1, 4)", x.due(1, 4), 1);
        is("due(1, 5)", x.due(1, 5), 0);
        is("due(2, 5)", x.due(2, 5), 5);
        // each below a start: the first is due
        HundredthSheep y = told("moor gaps 1 days 1 each 9 due 1;start 0 is 8;drive 0 gap 0 on 0 at 5 sheep 3;");
        y.law(3, 3);
        is("counter(0, 0, 4)", y.counter(0, 0, 4), 8);
        is("due(0, 5)", y.due(0, 5), 0);
        is("dues()", y.dues(), 1);
        is("left(0)", y.left(0), 1);
        y.sets(0, 0, 0);
        HundredthSheep z = told("moor gaps 1 days 1 each 9 due 1;start 0 is 8;");
        z.law(3, 3);
        is("left(0) above each", z.left(0), 1);
    }

    private void dues() {
        HundredthSheep x = told(VALLEY);
        about("10 counter");
        is("counter(0, 0, 7)", x.counter(0, 0, 7), 0);
        is("counter(0, 0, 8)", x.counter(0, 0, 8), 1);
        is("counter(0, 0, 9)", x.counter(0, 0, 9), 2);
        is("counter(1, 0, 7)", x.counter(1, 0, 7), 4);
        is("counter(1, 0, 8)", x.counter(1, 0, 8), 2);
        is("counter(0, 1, 0)", x.counter(0, 1, 0), 2);
        is("counter(2, 0, 0)", x.counter(2, 0, 0), -2);
        is("counter(0, 2, 0)", x.counter(0, 2, 0), -2);
        is("counter(0, 0, 24)", x.counter(0, 0, 24), -2);
        is("counter(0, 0, -1)", x.counter(0, 0, -1), -2);
        about("11 through");
        is("through(0, 0, 0)", x.through(0, 0, 0), 12);
        is("through(0, 1, 0)", x.through(0, 1, 0), 7);
        is("through(0, 1, 1)", x.through(0, 1, 1), 5);
        is("through(1, 1, 0)", x.through(1, 1, 0), 0);
        is("through(2, 0, 0)", x.through(2, 0, 0), -2);
        is("through(0, 2, 0)", x.through(0, 2, 0), -2);
        is("through(0, 0, 2)", x.through(0, 0, 2), -2);
        is("through(0, 0, -1)", x.through(0, 0, -1), -2);
        about("12 dues");
        is("dues()", x.dues(), 4);
        about("13 due");
        int[][] due = {{0, 8, 0, 0, 0, 4}, {0, 8, 1, 0, 2, 0}, {0, 9, 0, 1, 1, 3}, {1, 0, 0, 2, 4, 3}};
        for (int i = 0; i < 4; i++) {
            for (int what = 0; what < 6; what++) {
                is("due(" + i + ", " + what + ")", x.due(i, what), due[i][what]);
            }
        }
        is("due(4, 0)", x.due(4, 0), -1);
        is("due(-1, 0)", x.due(-1, 0), -1);
        is("due(0, 6)", x.due(0, 6), -2);
        is("due(0, -1)", x.due(0, -1), -2);
        is("due(9, 6)", x.due(9, 6), -2);
        who(x);
        nights();
    }

    private void who(HundredthSheep x) {
        about("14 paid");
        is("paid(0)", x.paid(0), 14);
        is("paid(1)", x.paid(1), 7);
        is("paid(3)", x.paid(3), -2);
        is("paid(-1)", x.paid(-1), -2);
        about("15 pays");
        is("pays(0, 0)", x.pays(0, 0), 2);
        is("pays(2, 0)", x.pays(2, 0), 0);
        is("pays(2, 1)", x.pays(2, 1), 1);
        is("pays(3, 0)", x.pays(3, 0), -2);
        is("pays(0, 2)", x.pays(0, 2), -2);
        is("pays(0, -1)", x.pays(0, -1), -2);
        about("16 worst");
        is("worst()", x.worst(), 0);
        x.law(3, 100);
        is("worst() of nobody", x.worst(), -1);
        HundredthSheep y = told("moor gaps 1 days 1 each 2 due 1;owners 3;drive 2 gap 0 on 0 at 1 sheep 2;"
            + "drive 1 gap 0 on 0 at 2 sheep 2;");
        is("worst() of two", y.worst(), 1);
        about("17 left");
        x.law(3, 5);
        is("left(0)", x.left(0), 3);
        is("left(1)", x.left(1), 3);
        is("left(2)", x.left(2), -2);
        is("left(-1)", x.left(-1), -2);
    }

    private void nights() {
        about("II, III");
        String text = "moor gaps 2 days 3 each 4 due 1;start 0 is 2;start 1 is 3;lambs from 1;"
            + "drive 0 gap 0 on 0 at 5 sheep 1 lambs 9;"
            + "drive 0 gap 1 on 1 at 5 sheep 1 lambs 1;";
        HundredthSheep x = told(text);
        is("through(0, 0, 0)", x.through(0, 0, 0), 10);
        is("through(0, 0, 1)", x.through(0, 0, 1), 1);
        is("through(1, 1, 1)", x.through(1, 1, 1), 2);
        is("counter(0, 2, 23)", x.counter(0, 2, 23), 3);
        is("counter(1, 1, 5)", x.counter(1, 1, 5), 1);
        x.law(1, 1);
        is("counter(0, 0, 23) by nights that clear", x.counter(0, 0, 23), 3);
        is("counter(0, 1, 0) by nights that clear", x.counter(0, 1, 0), 0);
        is("counter(1, 1, 5) by nights that clear", x.counter(1, 1, 5), 2);
        x.law(1, 0);
        x.law(0, 1);
        is("counter(1, 0, 0) by all", x.counter(1, 0, 0), 2);
        is("counter(1, 0, 5) by all", x.counter(1, 0, 5), 3);
        is("counter(0, 1, 5) by all", x.counter(0, 1, 5), 1);
    }

    private void plans() {
        HundredthSheep x = told(RIVALS);
        about("18 best");
        is("best(0, 0)", x.best(0, 0), 0);
        is("best(1, 0)", x.best(1, 0), 0);
        is("best(1, 1)", x.best(1, 1), 0);
        is("best(1, 2)", x.best(1, 2), 0);
        is("best(2, 0)", x.best(2, 0), -2);
        is("best(0, 3)", x.best(0, 3), -2);
        is("best(0, -1)", x.best(0, -1), -2);
        is("drive(1, 3) stays", x.drive(1, 3), 9);
        about("20 rest");
        is("rest()", x.rest(), 1);
        about("21 rests");
        is("rests(0)", x.rests(0), -1);
        is("rests(2)", x.rests(2), -1);
        is("rests(3)", x.rests(3), 3);
        is("rests(30)", x.rests(30), 3);
        is("rests(31)", x.rests(31), -2);
        is("rests(-1)", x.rests(-1), -2);
        about("22 sent");
        int[] zeroth = {8, 8, 0, 0, 0};
        int[] first = {9, 0, 0, 100, 100};
        for (int n = 0; n < 5; n++) {
            is("sent(0, " + n + ")", x.sent(0, n), zeroth[n]);
            is("sent(1, " + n + ")", x.sent(1, n), first[n]);
        }
        is("sent(1, 30)", x.sent(1, 30), 100);
        is("sent(2, 0)", x.sent(2, 0), -2);
        is("sent(0, 31)", x.sent(0, 31), -2);
        is("sent(0, -1)", x.sent(0, -1), -2);
        is("drive(1, 3) stays", x.drive(1, 3), 9);
        HundredthSheep y = told(VALLEY);
        is("rest() of all that rest", y.rest(), -1);
        is("rests(0) of all that rest", y.rests(0), 0);
        about("18 best");
        // one that is lame best never comes
        HundredthSheep z = told("moor gaps 1 days 1 each 2 due 3;drive 0 gap 0 on 0 at 4 sheep 2 lame;");
        is("best(0, 0) of a lame one", z.best(0, 0), 0);
        is("best(0, 2) of a lame one", z.best(0, 2), 23);
        // a night that clears lies ahead of one that is lame at 23
        HundredthSheep night = told("moor gaps 1 days 2 each 2 due 1;law clear;owners 2;drive 1 gap 0 on 0 at 0 sheep 1;"
            + "drive 0 gap 0 on 0 at 5 sheep 1 lame;");
        is("best(1, 0) over night", night.best(1, 0), 0);
        is("best(1, 2) over night", night.best(1, 2), 23);
        is("rest() over night", night.rest(), 1);
    }

    private void splits() {
        about("19 split");
        HundredthSheep x = told("moor gaps 2 days 1 each 4 due 3;owners 2;drive 0 gap 0 on 0 at 5 sheep 4;"
            + "drive 0 gap 1 on 0 at 6 sheep 1;");
        is("split(0, 0)", x.split(0, 0), 0);
        is("split(0, 1)", x.split(0, 1), 2);
        is("split(0, 2)", x.split(0, 2), 1);
        is("split(0, 3)", x.split(0, 3), 0);
        is("split(1, 0)", x.split(1, 0), -1);
        is("split(1, 4)", x.split(1, 4), -2);
        is("split(2, 0)", x.split(2, 0), -2);
        is("split(0, 4)", x.split(0, 4), -2);
        is("split(0, -1)", x.split(0, -1), -2);
        is("drive(0, 4) stays", x.drive(0, 4), 4);
        is("count(3) stays", x.count(3), 2);
        x.law(4, 1);
        is("split(0, 1) of ones", x.split(0, 1), 2);
        // the lambs go with the others, so fewer sheep can
        HundredthSheep y = told("moor gaps 2 days 1 each 4 due 3;drive 0 gap 0 on 0 at 5 sheep 4 lambs 2;");
        is("split(0, 0) with lambs", y.split(0, 0), 0);
        is("split(0, 1) with lambs", y.split(0, 1), 3);
        // a thirteenth
        HundredthSheep z = told("moor gaps 1 days 1 each 100 due 3;" + repeat("drive 0 gap 0 on 0 at 5 sheep 8;", 12));
        is("split(11, 0) of twelve", z.split(11, 0), 0);
        is("split(11, 1) of twelve", z.split(11, 1), 1);
        HundredthSheep twelve = told("moor gaps 1 days 1 each 2 due 3;owners 2;" + repeat("drive 0 gap 0 on 0 at 5 sheep 2;", 11)
            + "drive 1 gap 0 on 0 at 5 sheep 3;");
        is("split(11, 0) with a thirteenth that pays", twelve.split(11, 0), 3);
        is("split(0, 0) of two sheep", twelve.split(0, 1), 1);
    }

    private void harms() {
        about("23 harm");
        HundredthSheep x = told(VALLEY);
        is("harm(2)", x.harm(2), 7);
        is("harm(0)", x.harm(0), 0);
        is("harm(3)", x.harm(3), 0);
        is("harm(5)", x.harm(5), -2);
        is("harm(-1)", x.harm(-1), -2);
        is("dues() stay", x.dues(), 4);
        HundredthSheep y = told(RIVALS);
        is("harm(0) to another", y.harm(0), 5);
        is("harm(1)", y.harm(1), 0);
        HundredthSheep z = told("moor gaps 1 days 1 each 2 due 5;owners 2;drive 1 gap 0 on 0 at 1 sheep 1;"
            + "drive 0 gap 0 on 0 at 2 sheep 1;drive 1 gap 0 on 0 at 3 sheep 1;");
        is("harm(1) below 0", z.harm(1), -5);
        about("24 ewe");
        is("ewe(1, 0, 0, 0)", y.ewe(1, 0, 0, 0), 5);
        is("ewe(1, 0, 0, 8)", y.ewe(1, 0, 0, 8), 0);
        is("ewe(0, 0, 0, 8)", y.ewe(0, 0, 0, 8), -5);
        is("ewe(2, 0, 0, 0)", y.ewe(2, 0, 0, 0), -2);
        is("ewe(0, 2, 0, 0)", y.ewe(0, 2, 0, 0), -2);
        is("ewe(0, 0, 1, 0)", y.ewe(0, 0, 1, 0), -2);
        is("ewe(0, 0, 0, 24)", y.ewe(0, 0, 0, 24), -2);
        is("ewe(0, 0, 0, -1)", y.ewe(0, 0, 0, -1), -2);
        is("count(3) stays", y.count(3), 2);
        about("25 waits");
        is("waits(0, 0, 0, 0)", y.waits(0, 0, 0, 0), 9);
        is("waits(0, 0, 0, 1)", y.waits(0, 0, 0, 1), 0);
        is("waits(1, 0, 0, 0)", y.waits(1, 0, 0, 0), 0);
        is("waits(1, 0, 0, 1)", y.waits(1, 0, 0, 1), 5);
        y.sets(0, 0, 1);
        y.sets(1, 0, 1);
        is("waits(0, 0, 0, 0) at 1", y.waits(0, 0, 0, 0), 1);
        y.sets(1, 0, 23);
        is("waits(0, 0, 0, 0) at 23", y.waits(0, 0, 0, 0), 23);
        is("waits(1, 0, 0, 2)", y.waits(1, 0, 0, 2), -2);
        is("waits(1, 0, 0, -1)", y.waits(1, 0, 0, -1), -2);
        is("waits(2, 0, 0, 0)", y.waits(2, 0, 0, 0), -2);
        is("waits(0, 2, 0, 0)", y.waits(0, 2, 0, 0), -2);
        is("waits(0, 0, 1, 0)", y.waits(0, 0, 1, 0), -2);
    }

    private void rings() {
        HundredthSheep x = told(VALLEY);
        about("26 ring");
        is("ring(0, 3, 2)", x.ring(0, 3, 2), 1);
        is("ring(0, 4, 2)", x.ring(0, 4, 2), 2);
        is("ring(1, 1, 0)", x.ring(1, 1, 0), 0);
        is("ring(0, 999, 99)", x.ring(0, 999, 99), (2 + 999 * 99) / 5);
        is("ring(0, 0, 1)", x.ring(0, 0, 1), -2);
        is("ring(0, 1000, 1)", x.ring(0, 1000, 1), -2);
        is("ring(0, 1, 100)", x.ring(0, 1, 100), -2);
        is("ring(0, 1, -1)", x.ring(0, 1, -1), -2);
        is("ring(2, 1, 1)", x.ring(2, 1, 1), -2);
        about("27 rounds");
        is("rounds(0, 1)", x.rounds(0, 1), 3);
        is("rounds(0, 4)", x.rounds(0, 4), 2);
        is("rounds(0, 5)", x.rounds(0, 5), -1);
        is("rounds(0, 0)", x.rounds(0, 0), -2);
        is("rounds(0, 1000)", x.rounds(0, 1000), -2);
        is("rounds(2, 1)", x.rounds(2, 1), -2);
        HundredthSheep y = told(MOOR);
        is("rounds(0, 1) each times", y.rounds(0, 1), 2);
    }

    private void explaining() {
        HundredthSheep x = told(THREE);
        about("28 orders");
        is("orders(0, 0, 0) of nothing", x.orders(0, 0, 0), -6);
        rowOf(x, 0, 1, 1);
        is("orders(0, 0, 0)", x.orders(0, 0, 0), 2);
        about("29 order");
        is("order(0, 0, 0, 0)", x.order(0, 0, 0, 0), 0);
        is("order(0, 0, 0, 1)", x.order(0, 0, 0, 1), 1);
        is("order(0, 0, 0, 2)", x.order(0, 0, 0, 2), 2);
        is("order(0, 0, 0, 3)", x.order(0, 0, 0, 3), -1);
        is("order(0, 0, 0, -1)", x.order(0, 0, 0, -1), -1);
        about("30 sure");
        is("sure(0, 0, 0, 0)", x.sure(0, 0, 0, 0), 0);
        is("sure(0, 0, 0, 1)", x.sure(0, 0, 0, 1), -1);
        is("sure(0, 0, 0, 3)", x.sure(0, 0, 0, 3), -2);
        is("sure(0, 0, 0, -1)", x.sure(0, 0, 0, -1), -2);
        rowOf(x, 0, 0, 1);
        is("sure(0, 0, 0, 0)", x.sure(0, 0, 0, 0), 1);
        is("order(0, 0, 0, 0)", x.order(0, 0, 0, 0), 1);
        rowOf(x, 0, 0, 0);
        is("orders of none", x.orders(0, 0, 0), 0);
        is("order of none", x.order(0, 0, 0, 0), -1);
        is("sure of none", x.sure(0, 0, 0, 0), -1);
        rowOf(x, 0, 1);
        is("orders of one too few", x.orders(0, 0, 0), 0);
        rowOf(x, 0, 1, 1, 1);
        is("orders of one too many", x.orders(0, 0, 0), 0);
        rowOf(x, 0, 1, 3);
        is("orders of no owner", x.orders(0, 0, 0), -2);
        is("order of no owner", x.order(0, 0, 0, 0), -2);
        is("sure of no owner", x.sure(0, 0, 0, 0), -2);
        rowOf(x, 0, -1, 1);
        is("orders of an owner below 0", x.orders(0, 0, 0), -2);
        is("orders(4, 0, 0)", x.orders(4, 0, 0), -2);
        is("orders(-1, 0, 0)", x.orders(-1, 0, 0), -2);
        is("orders(1, 1, 0)", x.orders(1, 1, 0), -2);
        is("orders(1, 0, 1)", x.orders(1, 0, 1), -2);
        is("orders(1, 0, 0)", x.orders(1, 0, 0), -6);
        is("sure(1, 0, 0, 3)", x.sure(1, 0, 0, 3), -2);
        manyOrders();
    }

    private void manyOrders() {
        about("28 orders");
        String drive = "drive 0 gap 0 on 0 at 5 sheep 8;";
        HundredthSheep x = told("moor gaps 2 days 2 each 100 due 3;" + repeat(drive, 6) + "drive 0 gap 1 on 0 at 0 sheep 1;");
        x.row(0, 3, 0);
        is("orders of six, none due", x.orders(0, 0, 0), 720);
        is("sure of many", x.sure(0, 0, 0, 0), -1);
        is("sure of one elsewhere", x.sure(0, 0, 0, 6), -1);
        is("orders of one", x.orders(0, 1, 0), 1);
        is("sure of one", x.sure(0, 1, 0, 6), 0);
        is("orders of no drives", x.orders(0, 1, 1), 1);
        is("order of no drives", x.order(0, 1, 1, 0), -1);
        rowOf(x, 0, 7);
        x.sets(6, 0, 23);
        is("orders of seven", x.orders(0, 0, 0), -3);
        is("order of seven", x.order(0, 0, 0, 0), -3);
        is("sure of seven", x.sure(0, 0, 0, 0), -3);
        is("orders of seven, nothing", x.orders(1, 0, 0), -6);
        // by all those at other gaps that day go ahead: 1 + 4 is the first's due
        HundredthSheep y = told("moor gaps 2 days 1 each 5 due 3;law all;owners 2;drive 0 gap 0 on 0 at 5 sheep 4;"
            + "drive 1 gap 0 on 0 at 4 sheep 1;drive 1 gap 1 on 0 at 9 sheep 1;");
        rowOf(y, 0, 0);
        is("orders by all", y.orders(0, 0, 0), 2);
        y.law(0, 0);
        is("orders by gaps", y.orders(0, 0, 0), 1);
        is("order by gaps", y.order(0, 0, 0, 0), 1);
    }

    private void telling() {
        HundredthSheep x = told(VALLEY);
        about("31 wrong");
        is("wrong of nothing", x.wrong(0, 0), -6);
        rowOf(x, 0, 12, 3);
        is("wrong of none", x.wrong(0, 0), 0);
        is("wrong of another day", x.wrong(0, 1), 2);
        rowOf(x, 1, 11, 4);
        is("wrong of two", x.wrong(1, 0), 2);
        rowOf(x, 2, 12, 9999);
        is("wrong of one", x.wrong(2, 0), 1);
        about("32 anew");
        is("anew of none", x.anew(0, 0), 0);
        is("anew of the same sum", x.anew(1, 0), 0);
        is("anew of two gaps", x.anew(2, 0), 1);
        is("anew of nothing", x.anew(3, 0), -6);
        for (int gaps = 1; gaps <= 4; gaps++) {
            HundredthSheep y = told("moor gaps " + gaps + " days 1 each 2 due 3;");
            y.row(0, 0, gaps);
            is("anew of " + gaps + " gaps, right", y.anew(0, 0), 0);
            y.write(0, 0, 1);
            is("anew of " + gaps + " gaps", y.anew(0, 0), gaps == 4 ? 2 : gaps - 1);
        }
        rowOf(x, 2, 12, 10000);
        refusedTelling(x, 2, 0, -2);
        rowOf(x, 2, -1, 3);
        refusedTelling(x, 2, 0, -2);
        refusedTelling(x, 4, 0, -2);
        refusedTelling(x, -1, 0, -2);
        refusedTelling(x, 0, 2, -2);
        refusedTelling(x, 0, -1, -2);
        rowOf(x, 2, 12);
        refusedTelling(x, 2, 0, -7);
        rowOf(x, 2, 12, 3, -1);
        refusedTelling(x, 2, 0, -7);
    }

    private void refusedTelling(HundredthSheep x, int slot, int day, int why) {
        is("wrong(" + slot + ", " + day + ")", x.wrong(slot, day), why);
        is("anew(" + slot + ", " + day + ")", x.anew(slot, day), why);
    }

    private void mixing() {
        about("33 mixed");
        // draws from seed 1 begin 16838, 5758, 10113: of 3 is 2, of 2 is 0, so the order is as it was
        HundredthSheep x = told("moor gaps 1 days 1 each 2 due 3;owners 2;drive 0 gap 0 on 0 at 5 sheep 2;"
            + "drive 1 gap 0 on 0 at 5 sheep 1;");
        is("mixed(1, 0)", x.mixed(1, 0), 3);
        is("mixed(1, 1)", x.mixed(1, 1), 0);
        // of 4 is 2, of 3 is 1, of 2 is 1: the last comes to the third place, then to the second, which is due
        HundredthSheep y = told("moor gaps 1 days 1 each 4 due 3;start 0 is 2;owners 2;drive 0 gap 0 on 0 at 5 sheep 3;"
            + "drive 1 gap 0 on 0 at 5 sheep 1;");
        is("paid(0)", y.paid(0), 3);
        is("mixed(1, 0)", y.mixed(1, 0), 0);
        is("mixed(1, 1)", y.mixed(1, 1), 3);
        is("luck(1, 1, 1)", y.luck(1, 1, 1), 1);
        is("mixed(0, 0) and 1", x.mixed(0, 0) + x.mixed(0, 1), 3);
        type(y, "moor gaps 1 days 1 each 3 due 3;drive 0 gap 0 on 0 at 5 sheep 3;");
        y.moor();
        is("mixed(1, 0) of fewer", y.mixed(1, 0), 3);
        is("mixed(-1, 0)", x.mixed(-1, 0), -2);
        is("mixed(2000000001, 0)", x.mixed(2000000001, 0), -2);
        is("mixed(0, 2)", x.mixed(0, 2), -2);
        is("mixed(0, -1)", x.mixed(0, -1), -2);
        is("mixed(2000000000, 0) and 1", x.mixed(2000000000, 0) + x.mixed(2000000000, 1), 3);
        about("34 luck");
        int more = 0;
        for (int seed = 2000000000 - 19; seed <= 2000000000; seed++) {
            more += x.mixed(seed, 1) > 0 ? 1 : 0;
        }
        is("luck of twenty", x.luck(2000000000 - 19, 20, 1), more);
        is("luck of him who pays", x.luck(5, 20, 0), 0);
        is("luck beyond the last seed", x.luck(2000000000, 1, 1), x.mixed(2000000000, 1) > 0 ? 1 : 0);
        is("luck(0, 0, 0)", x.luck(0, 0, 0), -2);
        is("luck(0, 21, 0)", x.luck(0, 21, 0), -2);
        is("luck(-1, 1, 0)", x.luck(-1, 1, 0), -2);
        is("luck(2000000001, 1, 0)", x.luck(2000000001, 1, 0), -2);
        is("luck(0, 1, 2)", x.luck(0, 1, 2), -2);
    }

    private void otherLaws() {
        HundredthSheep x = told(VALLEY);
        about("35 free");
        // owner 0: his drive's six are below 7, but the painted three come to 7 at gap 1 from 4 on
        is("free(0)", x.free(0), 8);
        is("free(1)", x.free(1), 13);
        is("free(3)", x.free(3), -2);
        is("free(-1)", x.free(-1), -2);
        is("law(3, 5) stays", x.law(3, 5), 5);
        HundredthSheep y = told("moor gaps 1 days 1 each 2 due 1;drive 0 gap 0 on 0 at 0 sheep 99 lambs 99;");
        is("free(0) of too many", y.free(0), -1);
        y.law(4, 0);
        is("free(0) of nothing due", y.free(0), 2);
        HundredthSheep most = told("moor gaps 1 days 1 each 2 due 1;drive 0 gap 0 on 0 at 0 sheep 99;");
        is("free(0) of the most", most.free(0), 100);
        HundredthSheep none = told(MOOR);
        is("free(0) without drives", none.free(0), 2);
        about("36 all");
        HundredthSheep z = told("moor gaps 2 days 2 each 3 due 2;start 0 is 2;start 1 is 1;"
            + "drive 0 gap 0 on 0 at 0 sheep 3;drive 0 gap 1 on 0 at 1 sheep 2;"
            + "drive 0 gap 0 on 1 at 0 sheep 1;drive 0 gap 1 on 1 at 1 sheep 2;");
        // keep, by gaps: 2+4 and 1+4; clear: 2+3, 1 and 1+2, 2; keep, by all: 2+8; clear, by all: 2+5, 3
        is("all(0)", z.all(0), 2 * (2 + 1));
        is("all(1)", z.all(1), 2 * (1 + 0 + 1 + 0));
        is("all(2)", z.all(2), 2 * 3);
        is("all(3)", z.all(3), 2 * (2 + 1));
        is("all(4)", z.all(4), -2);
        is("all(-1)", z.all(-1), -2);
        is("law(0, 0) stays", z.law(0, 0), 0);
    }

    private void counts() {
        about("37 count");
        HundredthSheep x = told(VALLEY + "lambs from 1;");
        type(x, "abc");
        x.row(2, 0, 0);
        int[] due = {2, 2, 3, 5, 1, 10, 3, 1, 1};
        for (int what = 0; what < 9; what++) {
            is("count(" + what + ")", x.count(what), due[what]);
        }
        is("count(9)", x.count(9), -1);
        is("count(-1)", x.count(-1), -1);
        for (int slot = 0; slot < 4; slot++) {
            x.row(slot, 0, 1);
        }
        is("count(8)", x.count(8), 4);
        HundredthSheep y = new HundredthSheep();
        for (int what = 0; what < 9; what++) {
            is("count(" + what + ") of a new one", y.count(what), 0);
        }
    }

    private void images() {
        about("38 keep");
        HundredthSheep x = told(VALLEY);
        is("keep(3)", x.keep(3), -2);
        is("keep(-1)", x.keep(-1), -2);
        is("keep(0)", x.keep(0), 0);
        x.law(3, 9);
        x.sets(0, 1, 20);
        is("keep(2)", x.keep(2), 0);
        type(x, RIVALS);
        x.moor();
        about("39 back");
        is("back(1)", x.back(1), -6);
        is("back(3)", x.back(3), -2);
        is("back(-1)", x.back(-1), -2);
        is("count(3)", x.count(3), 2);
        is("back(2)", x.back(2), 0);
        is("count(3)", x.count(3), 5);
        is("drive(0, 3)", x.drive(0, 3), 20);
        is("law(3, 9)", x.law(3, 9), 9);
        is("back(0)", x.back(0), 0);
        is("drive(0, 3)", x.drive(0, 3), 8);
        is("dues()", x.dues(), 4);
        x.law(3, 100);
        is("back(0) again", x.back(0), 0);
        is("dues()", x.dues(), 4);
        HundredthSheep y = new HundredthSheep();
        y.keep(1);
        type(y, RIVALS);
        y.moor();
        is("back(1) to no moor", y.back(1), 0);
        is("dues()", y.dues(), -2);
    }

    private void slots() {
        about("40 row");
        HundredthSheep x = told("moor gaps 1 days 1 each 2 due 1;");
        is("row(4, 0, 1)", x.row(4, 0, 1), -2);
        is("row(-1, 0, 1)", x.row(-1, 0, 1), -2);
        is("row(0, 4, 1)", x.row(0, 4, 1), -2);
        is("row(0, -1, 1)", x.row(0, -1, 1), -2);
        is("row(0, 0, 61)", x.row(0, 0, 61), -2);
        is("row(0, 0, -1)", x.row(0, 0, -1), -3);
        is("row(4, 0, -1)", x.row(4, 0, -1), -2);
        is("count(8)", x.count(8), 0);
        is("row(0, 0, 60)", x.row(0, 0, 60), 0);
        is("row(0, 0, -1)", x.row(0, 0, -1), -3);
        about("41 write");
        is("write(0, 59, 1)", x.write(0, 59, 1), 0);
        is("write(0, 60, 1)", x.write(0, 60, 1), -7);
        is("write(0, -1, 1)", x.write(0, -1, 1), -7);
        is("write(1, 0, 1)", x.write(1, 0, 1), -6);
        is("write(4, 0, 1)", x.write(4, 0, 1), -2);
        is("write(-1, 0, 1)", x.write(-1, 0, 1), -2);
        cutTo(x, 0, 256 + 5, 1);
        cutTo(x, 0, 255, -2);
        cutTo(x, 1, 255, 1);
        cutTo(x, 1, 65535, -2);
        cutTo(x, 1, 65536, 0);
        cutTo(x, 2, 65536, -2);
        cutTo(x, 2, (1L << 32) + 7, 1);
        cutTo(x, 2, 1L << 32, 0);
        cutTo(x, 3, 1L << 32, -2);
        cutTo(x, 3, -1, -2);
        pasting(x);
    }

    private void cutTo(HundredthSheep x, int width, long v, int wrong) {
        x.row(3, width, 1);
        x.write(3, 0, v);
        is("wrong of " + v + " cut to " + width, x.wrong(3, 0), wrong);
    }

    private void pasting(HundredthSheep x) {
        about("42 paste");
        x.row(0, 1, 4);
        x.row(1, 1, 3);
        x.row(2, 2, 3);
        x.row(3, 1, 1);
        is("paste(4, 0, 0, 0, 1)", x.paste(4, 0, 0, 0, 1), -2);
        is("paste(0, 0, -1, 0, 1)", x.paste(0, 0, -1, 0, 1), -2);
        is("paste(0, 0, 2, 0, 9)", x.paste(0, 0, 2, 0, 9), -8);
        is("paste(0, 2, 1, 0, 3)", x.paste(0, 2, 1, 0, 3), -7);
        is("paste(0, 0, 1, 1, 3)", x.paste(0, 0, 1, 1, 3), -7);
        is("paste(0, -1, 1, 0, 1)", x.paste(0, -1, 1, 0, 1), -7);
        is("paste(0, 0, 1, -1, 1)", x.paste(0, 0, 1, -1, 1), -7);
        is("paste(0, 0, 1, 0, -1)", x.paste(0, 0, 1, 0, -1), -7);
        is("paste far beyond", x.paste(0, Integer.MAX_VALUE, 1, 1, Integer.MAX_VALUE), -7);
        is("paste(0, 4, 1, 3, 0)", x.paste(0, 4, 1, 3, 0), 0);
        // 1 2 3 4 moved on by one in itself: 1 1 2 3, as they were
        for (int i = 0; i < 4; i++) {
            x.write(0, i, i + 1);
        }
        is("paste(0, 0, 0, 1, 3)", x.paste(0, 0, 0, 1, 3), 0);
        int[] due = {1, 1, 2, 3};
        HundredthSheep y = told("moor gaps 1 days 4 each 2 due 1;drive 0 gap 0 on 0 at 0 sheep 1;"
            + "drive 0 gap 0 on 1 at 0 sheep 2;drive 0 gap 0 on 2 at 0 sheep 3;");
        y.row(0, 1, 4);
        for (int i = 0; i < 4; i++) {
            y.write(0, i, i + 1);
        }
        y.paste(0, 0, 0, 1, 3);
        y.row(1, 1, 1);
        for (int i = 0; i < 4; i++) {
            is("paste to a row of one", y.paste(0, i, 1, 0, 1), 0);
            is("number " + i, y.wrong(1, due[i] - 1), 0);
        }
        HundredthSheep z = new HundredthSheep();
        z.row(0, 0, 1);
        is("paste to nothing", z.paste(0, 0, 1, 0, 1), -6);
        is("paste from nothing", z.paste(1, 0, 0, 0, 1), -6);
    }

    public static void main(String[] args) throws IOException {
        PromiseTests tests = new PromiseTests();
        tests.fresh();
        tests.tape();
        tests.reading();
        tests.faults();
        tests.faultsOfDrives();
        tests.drives();
        tests.laws();
        tests.dues();
        tests.plans();
        tests.splits();
        tests.harms();
        tests.rings();
        tests.explaining();
        tests.telling();
        tests.mixing();
        tests.otherLaws();
        tests.counts();
        tests.images();
        tests.slots();
        tests.close();
    }
}
