/** All that can be seen of an object, as a text: what a call that is refused must leave as it was. */
final class Look {
    // three gaps, days and owners, five drives, two fogs
    private static final String TOLD =
        "moor gaps 3 days 3 each 7 due 5;owners 3;start 0 is 3;start 2 is 6;lambs from 1;"
        + "drive 0 gap 0 on 0 at 8 sheep 9 lambs 4;"
        + "drive 1 gap 1 on 0 at 8 sheep 12 painted 2;"
        + "drive 2 gap 0 on 1 at 23 sheep 15 lambs 3 lame;"
        + "drive 0 gap 2 on 2 at 23 sheep 5 lame;"
        + "drive 1 gap 0 on 2 at 0 sheep 1;"
        + "fog 0 on 1 misses 3;fog 0 on 2 misses 2;";

    // on each day as many beasts as the day's number, so that it tells which number a row has
    private static final String READER = reader();

    private Look() {
    }

    private static String reader() {
        StringBuilder text = new StringBuilder("moor gaps 1 days 9 each 2 due 1;");
        for (int day = 1; day < 9; day++) {
            text.append("drive 0 gap 0 on ").append(day).append(" at 0 sheep ").append(day).append(";");
        }
        return text.toString();
    }

    /** An object with a moor, laws and drives changed, two images, three rows, a fault and a tape. */
    static HundredthSheep made() {
        HundredthSheep x = new HundredthSheep();
        Trial.type(x, TOLD);
        x.moor();
        x.keep(0);
        x.law(1, 1);
        x.sets(1, 2, 9);
        x.keep(2);
        x.law(3, 6);
        x.sets(0, 1, 7);
        return withRowsAndTape(x);
    }

    /** One that has all of these but a moor. */
    static HundredthSheep bare() {
        return withRowsAndTape(new HundredthSheep());
    }

    private static HundredthSheep withRowsAndTape(HundredthSheep x) {
        Trial.type(x, "moor gaps 5");
        x.moor();
        x.end(0);
        x.row(0, 0, 3);
        x.write(0, 0, 1);
        x.write(0, 1, 2);
        x.row(1, 2, 2);
        x.write(1, 0, 4);
        x.write(1, 1, 5);
        x.row(2, 3, 0);
        Trial.type(x, READER);
        return x;
    }

    /** To see all of an object uses it up: its tape is read and its rows are pasted. */
    static String at(HundredthSheep x) {
        StringBuilder seen = new StringBuilder();
        moorOf(x, seen);
        countsOf(x, seen);
        for (int k = 0; k < 3; k++) {
            seen.append("\nimage ").append(x.back(k));
            moorOf(x, seen);
        }
        seen.append("\ntape ").append(x.moor()).append(' ').append(x.fault(0)).append(' ').append(x.fault(1));
        rowsOf(x, seen);
        return seen.toString();
    }

    private static void moorOf(HundredthSheep x, StringBuilder seen) {
        seen.append("\ncount");
        for (int what = 0; what < 9; what++) {
            seen.append(' ').append(x.count(what));
        }
        seen.append("\nfault ").append(x.fault(0)).append(' ').append(x.fault(1)).append("\nlaw");
        for (int what = 0; what < 5; what++) {
            int was = x.law(what, what == 3 ? 2 : 0);
            x.law(what, was);
            seen.append(' ').append(was);
        }
        for (int drive = 0; drive < 5; drive++) {
            seen.append("\ndrive").append(drive);
            for (int what = 0; what < 8; what++) {
                seen.append(' ').append(x.drive(drive, what));
            }
        }
    }

    private static void countsOf(HundredthSheep x, StringBuilder seen) {
        seen.append("\ndues ").append(x.dues()).append(' ').append(x.worst()).append(' ').append(x.rest());
        for (int i = 0; i < x.dues(); i++) {
            seen.append(" at ").append(x.due(i, 4)).append(' ').append(x.due(i, 5));
        }
        for (int gap = 0; gap < 3; gap++) {
            seen.append("\ngap").append(gap).append(' ').append(x.left(gap));
            for (int day = 0; day < 3; day++) {
                seen.append(' ').append(x.through(gap, day, 0)).append(' ').append(x.through(gap, day, 1));
                seen.append(' ').append(x.counter(gap, day, 8)).append(' ').append(x.counter(gap, day, 23));
            }
        }
    }

    private static void rowsOf(HundredthSheep x, StringBuilder seen) {
        for (int slot = 0; slot < 3; slot++) {
            seen.append("\nrow").append(slot);
            for (int width = 0; width < 4; width++) {
                x.row(3, width, 1);
                if (x.paste(slot, 0, 3, 0, 0) == 0) {
                    seen.append(" of ").append(width).append(':');
                    numbersOf(x, slot, seen);
                }
            }
        }
    }

    private static void numbersOf(HundredthSheep x, int slot, StringBuilder seen) {
        for (int i = 0; x.paste(slot, i, 3, 0, 1) == 0; i++) {
            int number = 0;
            while (number < 9 && x.wrong(3, number) != 0) {
                number++;
            }
            seen.append(' ').append(number);
        }
    }
}
