import java.io.IOException;

/** Promises 33 to 42, draws, counts, images and rows: each bound that a sentence names, and what is left as it was. */
public final class KeepTests extends Trial {
    private KeepTests() throws IOException {
        super();
    }

    private void mixed() {
        sentence("MIXED (VI) by a seed (0 .. 2,000,000,000): what an owner pays in all. -2: there are none such.");
        int[] seeds = {LEAST, -1, 2000000001, MOST};
        for (int seed : seeds) {
            refused("mixed(" + seed + ", 0)", y -> y.mixed(seed, 0), -2);
            refused("luck(" + seed + ", 1, 0)", y -> y.luck(seed, 1, 0), -2);
        }
        for (int owner : notBelow(3)) {
            refused("mixed(0, " + owner + ")", y -> y.mixed(0, owner), -2);
            refused("luck(0, 1, " + owner + ")", y -> y.luck(0, 1, owner), -2);
        }
        needsMoor("mixed(0, 0)", y -> y.mixed(0, 0));
        needsMoor("mixed(2000000000, 2)", y -> y.mixed(2000000000, 2));
        is("mixed of the most", full().mixed(2000000000, 4), 6 * 198 * 999);
        is("mixed of none", told(MOOR).mixed(0, 0), 0);
    }

    private void luck() {
        sentence("Of n (1 .. 20) such from seeds, the seed and 1, .., in how many he pays more than unmixed. -2 likewise.");
        int[] wrong = {LEAST, -1, 0, 21, MOST};
        for (int n : wrong) {
            refused("luck(0, " + n + ", 0)", y -> y.luck(0, n, 0), -2);
        }
        needsMoor("luck(0, 1, 0)", y -> y.luck(0, 1, 0));
        needsMoor("luck(2000000000, 20, 2)", y -> y.luck(2000000000, 20, 2));
        HundredthSheep x = told(moor(1, 1, 2, 1) + "owners 3;start 0 is 1;" + drive(0, 0, 0, 0, 1) + ";" + drive(1, 0, 0, 0, 1) + ";");
        // the draws of 2 from seeds 0, 1, 2 are 0, from 3, 4, 5 are 1: by 0 the second goes first
        int[][] luck = {{0, 1, 1}, {0, 2, 2}, {0, 3, 3}, {0, 4, 3}, {0, 6, 3}, {2, 1, 1}, {3, 1, 0}, {3, 3, 0}, {2000000000, 1, 1}};
        for (int[] l : luck) {
            is("luck(" + l[0] + ", " + l[1] + ", 1)", x.luck(l[0], l[1], 1), l[2]);
            is("luck(" + l[0] + ", " + l[1] + ", 0)", x.luck(l[0], l[1], 0), 0);
            is("luck(" + l[0] + ", " + l[1] + ", 2)", x.luck(l[0], l[1], 2), 0);
        }
        int more = 0;
        for (int seed = 1999999981; seed <= 2000000000; seed++) {
            more += x.mixed(seed, 1);
        }
        is("luck of twenty up to the last seed", x.luck(1999999981, 20, 1), more);
        // 2000000001 is no seed to ask for, but the next from 2000000000 on: its draw of 2 is 0 too
        is("luck of two from the last seed", x.luck(2000000000, 2, 1), 2);
        x.law(4, 0);
        is("luck, due 0", x.luck(0, 20, 1), 0);
    }

    private void free() {
        sentence("The least each (2 .. 100) by which an owner pays nothing, all else as it is; NONE: by none. -2: there is none "
            + "such.");
        for (int owner : notBelow(3)) {
            refused("free(" + owner + ")", y -> y.free(owner), -2);
        }
        needsMoor("free(0)", y -> y.free(0));
        needsMoor("free(2)", y -> y.free(2));
        int[][] sheep = {{1, 0, 2}, {2, 0, 3}, {98, 0, 99}, {99, 0, 100}, {99, 1, -1}, {99, 99, -1}};
        for (int[] s : sheep) {
            HundredthSheep x = told(moor(1, 1, 50, 1) + drive(0, 0, 0, 0, s[0]) + " lambs " + s[1] + ";");
            is("free(0) of " + s[0] + " and " + s[1], x.free(0), s[2]);
            is("law(3), each as it was", x.law(3, 50), 50);
        }
        is("free(0) of none", told(MOOR).free(0), 2);
        HundredthSheep start = told(moor(1, 1, 100, 1) + "start 0 is 98;" + drive(0, 0, 0, 0, 1) + ";");
        is("free(0) from a start", start.free(0), 100);
        HundredthSheep never = told(moor(1, 1, 100, 1) + "start 0 is 99;" + drive(0, 0, 0, 0, 1) + ";");
        is("free(0) from a start by none", never.free(0), -1);
        never.law(4, 0);
        is("free(0), due 0", never.free(0), 2);
    }

    private void all() {
        sentence("What all pay together (what 0), if nights keep, by gaps (1: clear, by gaps; 2: keep, by all; 3: clear, by "
            + "all). -2: there is no such what, no MOOR.");
        for (int what : notBelow(4)) {
            refused("all(" + what + ")", y -> y.all(what), -2);
            refusedWithoutMoor("all(" + what + ")", y -> y.all(what));
        }
        for (int what = 0; what < 4; what++) {
            int asked = what;
            needsMoor("all(" + what + ")", y -> y.all(asked));
            is("all(" + what + ") of none", told(MOOR).all(what), 0);
            is("all(" + what + ") of the most", full().all(what), 6 * 198 * 999);
        }
        int[][] sheep = {{1, 2, 3}, {2, 1, 3}};
        String text = moor(3, 2, 4, 10) + "owners 2;";
        for (int day = 0; day < 2; day++) {
            for (int gap = 0; gap < 3; gap++) {
                text += drive(day, gap, day, 0, sheep[day][gap]) + ";";
            }
        }
        // by gaps 3, 3 and 6, each day by itself none, by all 12, each day by itself 6 and 6
        int[] sums = {10, 0, 30, 20};
        for (int laws = 0; laws < 4; laws++) {
            HundredthSheep x = told(text);
            x.law(0, laws / 2);
            x.law(1, laws % 2);
            for (int what = 0; what < 4; what++) {
                is("all(" + what + ") by laws " + laws, x.all(what), sums[what]);
            }
            is("paid as by laws " + laws, x.paid(0) + x.paid(1), sums[laws]);
        }
    }

    private void counts() {
        sentence("0 gaps, 1 days, 2 owners (0 without a MOOR), 3 DRIVES, 4 FOGS, 5 LINES, 6 bytes of the TAPE, 7 the DAY from "
            + "which lambs are lambs, 8 SLOTS that have a row. NONE for others.");
        HundredthSheep x = Look.made();
        HundredthSheep bare = Look.bare();
        int tape = 32 + 8 * 32;
        int[] made = {3, 3, 3, 5, 2, 12, tape, 1, 3};
        int[] none = {0, 0, 0, 0, 0, 0, tape, 0, 3};
        for (int what = 0; what < 9; what++) {
            is("count(" + what + ")", x.count(what), made[what]);
            is("count(" + what + ") without a moor", bare.count(what), none[what]);
        }
        for (int what : notBelow(9)) {
            refused("count(" + what + ")", y -> y.count(what), -1);
            is("count(" + what + ") without a moor", bare.count(what), -1);
        }
        HundredthSheep most = told(moor(4, 9, 2, 1) + "owners 5;lambs from 8;" + repeat(DRIVE + ";", 12)
            + repeat("fog 0 on 0 misses 2;", 8));
        type(most, repeat(" ", 1600));
        for (int slot = 0; slot < 4; slot++) {
            is("count(8)", most.count(8), slot);
            most.row(slot, 0, 0);
        }
        int[] full = {4, 9, 5, 12, 8, 23, 1600, 8, 4};
        for (int what = 0; what < 9; what++) {
            is("count(" + what + ") of the most", most.count(what), full[what]);
        }
    }

    private void images() {
        sentence("IMAGE k (0 .. 2) keeps the MOOR, LAWS, where DRIVES go: 0. -2: no such k.");
        for (int k : notBelow(3)) {
            refused("keep(" + k + ")", y -> y.keep(k), -2);
            refused("back(" + k + ")", y -> y.back(k), -2);
        }
        sentence("These are as IMAGE k has them: 0. -2: no such k; -6: it has nothing.");
        refused("back(1) of nothing", y -> y.back(1), -6);
        for (int k = 0; k < 3; k++) {
            HundredthSheep x = new HundredthSheep();
            for (int other = 0; other < 3; other++) {
                is("back(" + other + ") of nothing", x.back(other), -6);
            }
            is("keep(" + k + ") of no moor", x.keep(k), 0);
            type(x, MOOR);
            x.moor();
            for (int other = 0; other < 3; other++) {
                is("back(" + other + ") behind keep(" + k + ")", x.back(other), other == k ? 0 : -6);
                is("count(5)", x.count(5), other >= k ? 0 : 1);
            }
        }
        oneImageEach();
        whatImagesLeave();
    }

    private void oneImageEach() {
        HundredthSheep x = told(moor(2, 1, 9, 1) + DRIVE + ";");
        for (int k = 0; k < 3; k++) {
            x.law(3, 10 + k);
            x.sets(0, k % 2, 20 + k);
            is("keep(" + k + ")", x.keep(k), 0);
        }
        for (int k = 2; k >= 0; k--) {
            for (int times = 0; times < 2; times++) {
                is("back(" + k + ")", x.back(k), 0);
                is("drive(0, 1) of image " + k, x.drive(0, 1), k % 2);
                is("sets of image " + k, x.sets(0, 0, 0), 100 * (k % 2) + 20 + k);
                is("law(3, 2) of image " + k, x.law(3, 2), 10 + k);
            }
        }
        x.keep(1);
        x.back(0);
        is("back(1) of another one", x.back(1), 0);
        is("law(3, 2) of another one", x.law(3, 2), 2);
    }

    /** An image has neither rows nor tape nor fault, and is not changed by what is kept in another. */
    private void whatImagesLeave() {
        HundredthSheep x = Look.made();
        int tape = x.count(6);
        is("back(0)", x.back(0), 0);
        is("count(6)", x.count(6), tape);
        is("count(8)", x.count(8), 3);
        is("fault(0)", x.fault(0), 2);
        is("fault(1)", x.fault(1), 10);
        is("moor()", x.moor(), 9);
        is("count(3)", x.count(3), 8);
        is("back(0) in place of another", x.back(0), 0);
        is("count(3)", x.count(3), 5);
        is("law(1, 0)", x.law(1, 0), 0);
        is("sets(1, 0, 0)", x.sets(1, 0, 0), 108);
        is("back(2)", x.back(2), 0);
        is("law(1, 0)", x.law(1, 0), 1);
        is("sets(1, 0, 0)", x.sets(1, 0, 0), 209);
    }

    private void rows() {
        sentence("A SLOT (0 .. 3) has a row of n numbers of a WIDTH, all 0 (in place of another one): 0.");
        HundredthSheep x = told(MOOR);
        int[] sizes = {0, 1, 59, 60};
        for (int slot = 0; slot < 4; slot++) {
            for (int width = 0; width < 4; width++) {
                for (int n : sizes) {
                    is("row(" + slot + ", " + width + ", " + n + ")", x.row(slot, width, n), 0);
                    is("write to the last", x.write(slot, n - 1, 7), n == 0 ? -7 : 0);
                    is("write behind the last", x.write(slot, n, 7), -7);
                }
            }
        }
        is("row(0, 2, 1) in place of sixty", x.row(0, 2, 1), 0);
        is("wrong(0, 0), it is 0", x.wrong(0, 0), 0);
        x.write(0, 0, 5);
        is("row(0, 2, 1) in place of the same", x.row(0, 2, 1), 0);
        is("wrong(0, 0), it is 0 again", x.wrong(0, 0), 0);
        sentence("SLOTS 0 .. 3 have rows of numbers of 1, 2, 4 or 8 bytes (WIDTH 0 .. 3), at most 60, or nothing.");
        for (int slot : notBelow(4)) {
            refused("row(" + slot + ", 0, 1)", y -> y.row(slot, 0, 1), -2);
            refused("row(" + slot + ", 0, -1)", y -> y.row(slot, 0, -1), -2);
        }
        for (int width : notBelow(4)) {
            refused("row(0, " + width + ", 1)", y -> y.row(0, width, 1), -2);
            refused("row(0, " + width + ", -1)", y -> y.row(0, width, -1), -2);
        }
        sentence("-2: there is no such SLOT or WIDTH (0 .. 3), or n is above 60; -3, and the SLOT stays: n is below 0.");
        for (int slot = 0; slot < 4; slot++) {
            int at = slot;
            refused("row(" + slot + ", 0, 61)", y -> y.row(at, 0, 61), -2);
            refused("row(" + slot + ", 3, 61)", y -> y.row(at, 3, 61), -2);
            refused("row of the most", y -> y.row(at, 0, MOST), -2);
            refused("row(" + slot + ", 0, -1)", y -> y.row(at, 0, -1), -3);
            refused("row(" + slot + ", 3, -1)", y -> y.row(at, 3, -1), -3);
            refused("row of the least", y -> y.row(at, 0, LEAST), -3);
        }
    }

    private void writes() {
        sentence("-2: there is no such SLOT; -6: it has nothing; -7: there is no such number.");
        for (int slot : notBelow(4)) {
            refused("write(" + slot + ", 0, 1)", y -> y.write(slot, 0, 1), -2);
        }
        int[] any = {LEAST, -1, 0, 59, MOST};
        for (int i : any) {
            refused("write(3, " + i + ", 1) to nothing", y -> y.write(3, i, 1), -6);
            refused("write(2, " + i + ", 1) to none", y -> y.write(2, i, 1), -7);
        }
        for (int i : notBelow(3)) {
            refused("write(0, " + i + ", 1)", y -> y.write(0, i, 1), -7);
        }
        refused("write(1, 2, 1)", y -> y.write(1, 2, 1), -7);
    }

    private void cuts() {
        sentence("Number i of the SLOT's row is v, cut to its WIDTH: 0.");
        long[][] bytes = {{0, 0}, {127, 127}, {128, -1}, {255, -1}, {256, 0}, {257, 1}, {383, 127}, {384, -1}, {-1, -1}, {-128, -1},
            {-129, 127}, {-255, 1}, {-256, 0}, {Long.MAX_VALUE, -1}, {Long.MIN_VALUE, 0}};
        long[][] shorts = {{127, 127}, {128, 128}, {255, 255}, {256, 256}, {9999, 9999}, {10000, -1}, {32767, -1}, {32768, -1}, {65535, -1},
            {65536, 0}, {65537, 1}, {75535, 9999}, {75536, -1}, {-1, -1}, {-32768, -1}, {-65535, 1}, {-65536, 0},
            {Long.MAX_VALUE, -1}, {Long.MIN_VALUE, 0}};
        long[][] ints = {{9999, 9999}, {10000, -1}, {65536, -1}, {65537, -1}, {2147483647L, -1}, {2147483648L, -1}, {4294967295L, -1},
            {4294967296L, 0}, {4294967297L, 1}, {-4294967295L, 1}, {-4294967296L, 0}, {-1, -1}, {Long.MAX_VALUE, -1}, {Long.MIN_VALUE, 0}};
        long[][] longs = {{9999, 9999}, {10000, -1}, {4294967296L, -1}, {4294967297L, -1}, {-4294967295L, -1}, {-1, -1},
            {Long.MAX_VALUE, -1}, {Long.MIN_VALUE, -1}, {0, 0}};
        long[][][] all = {bytes, shorts, ints, longs};
        for (int width = 0; width < 4; width++) {
            for (long[] number : all[width]) {
                cutTo(width, number[0], (int) number[1]);
            }
        }
    }

    /** What a number comes to, told by wrong(); -1 stands for all that are not 0 .. 9,999. */
    private void cutTo(int width, long v, int number) {
        HundredthSheep x = told(moor(1, 1, 2, 1) + beasts(Math.min(number, 1000)));
        x.row(0, width, 1);
        is("write(0, 0, " + v + ") of width " + width, x.write(0, 0, v), 0);
        // more than a gap can have are told as wrong, if they are numbers at all
        is("number of " + v + " of width " + width, x.wrong(0, 0), number < 0 ? -2 : number > 1000 ? 1 : 0);
    }

    private static String beasts(int many) {
        StringBuilder text = new StringBuilder();
        for (int left = many; left > 0; left -= Math.min(left, 99)) {
            text.append(drive(0, 0, 0, 0, Math.min(left, 99))).append(";");
        }
        return text.toString();
    }

    private void pastes() {
        sentence("-2: there is no such SLOT; -6: one has nothing; -8: they are not of one WIDTH; -7, and nothing happens: some "
            + "are beyond their rows, or a place or n is below 0.");
        for (int slot : notBelow(4)) {
            refused("paste(" + slot + ", 0, 0, 0, 1)", y -> y.paste(slot, 0, 0, 0, 1), -2);
            refused("paste(0, 0, " + slot + ", 0, 1)", y -> y.paste(0, 0, slot, 0, 1), -2);
            refused("paste(" + slot + ", 0, 3, 0, 1) to nothing", y -> y.paste(slot, 0, 3, 0, 1), -2);
            refused("paste(3, 0, " + slot + ", 0, 1) from nothing", y -> y.paste(3, 0, slot, 0, 1), -2);
        }
        refused("paste from nothing", y -> y.paste(3, 0, 0, 0, 1), -6);
        refused("paste to nothing", y -> y.paste(0, 0, 3, 0, 1), -6);
        refused("paste from nothing to itself", y -> y.paste(3, 0, 3, 0, 0), -6);
        refused("paste from nothing to a row of 4 bytes", y -> y.paste(3, 0, 1, 0, 1), -6);
        refused("paste from a row of 8 bytes to nothing", y -> y.paste(2, 0, 3, 0, 0), -6);
        refused("paste from nothing, below 0", y -> y.paste(3, -1, 0, 0, -1), -6);
        refused("paste of another width", y -> y.paste(0, 0, 1, 0, 1), -8);
        refused("paste of another width, none", y -> y.paste(0, 0, 2, 0, 0), -8);
        refused("paste of another width, beyond", y -> y.paste(0, 9, 1, 0, 9), -8);
        refused("paste of another width, below 0", y -> y.paste(0, -1, 1, -1, -1), -8);
        int[][] beyond = {{0, 0, 4}, {1, 0, 3}, {3, 0, 1}, {0, 1, 3}, {0, 3, 1}, {2, 2, 2}, {-1, 0, 1}, {0, -1, 1}, {0, 0, -1}, {-1, 0, 0},
            {0, -1, 0}, {-1, -1, -1}, {MOST, 0, 1}, {0, MOST, 1}, {0, 0, MOST}, {MOST, MOST, MOST}, {1, 1, MOST}, {MOST, 1, 2},
            {LEAST, 0, 1}, {0, LEAST, 1}, {0, 0, LEAST}, {LEAST, LEAST, LEAST}};
        for (int[] b : beyond) {
            refused("paste(0, " + b[0] + ", 0, " + b[1] + ", " + b[2] + ")", y -> y.paste(0, b[0], 0, b[1], b[2]), -7);
        }
        refused("paste to a shorter one", y -> y.row(3, 0, 2), y -> y.paste(0, 0, 3, 0, 3), -7);
        refused("paste from a shorter one", y -> y.row(3, 0, 2), y -> y.paste(3, 0, 0, 0, 3), -7);
        refused("paste of none", y -> y.row(3, 0, 2), y -> y.paste(0, 3, 3, 2, 0), 0);
        refused("paste of none within itself", y -> y.paste(0, 0, 0, 0, 0), 0);
        refused("paste of none of a row of none", y -> y.paste(2, 0, 2, 0, 0), 0);
        refused("paste of all to itself", y -> y.paste(0, 0, 0, 0, 3), 0);
    }

    private void pastedNumbers() {
        sentence("So many numbers of a SLOT's row, from one on, are put to another one's (or its own), from one on, as they "
            + "were: 0.");
        int[][] within = {{0, 1, 4}, {1, 0, 4}, {0, 4, 1}, {4, 0, 1}, {0, 2, 3}, {2, 0, 3}, {0, 0, 5}};
        for (int width = 0; width < 4; width++) {
            for (int[] w : within) {
                int[] numbers = {1, 2, 3, 4, 5};
                HundredthSheep x = reader(width, numbers);
                is("paste(0, " + w[0] + ", 0, " + w[1] + ", " + w[2] + ")", x.paste(0, w[0], 0, w[1], w[2]), 0);
                System.arraycopy(numbers.clone(), w[0], numbers, w[1], w[2]);
                numbersAre(x, 0, width, numbers);
            }
        }
        HundredthSheep x = reader(1, new int[] {1, 2, 3, 4, 5});
        x.row(1, 1, 60);
        is("paste to the end of sixty", x.paste(0, 0, 1, 55, 5), 0);
        is("paste one behind that", x.paste(0, 0, 1, 56, 5), -7);
        is("paste of sixty to itself", x.paste(1, 0, 1, 0, 60), 0);
        is("paste of sixty-one", x.paste(1, 0, 1, 0, 61), -7);
        int[] sixty = new int[60];
        for (int i = 0; i < 5; i++) {
            sixty[55 + i] = i + 1;
        }
        numbersAre(x, 1, 1, sixty);
        numbersAre(x, 0, 1, new int[] {1, 2, 3, 4, 5});
    }

    /** A moor by whose days a number of a row can be told, and a row in slot 0. */
    private HundredthSheep reader(int width, int[] numbers) {
        String text = moor(1, 6, 2, 1);
        for (int day = 1; day < 6; day++) {
            text += drive(0, 0, day, 0, day) + ";";
        }
        HundredthSheep x = told(text);
        x.row(0, width, numbers.length);
        for (int i = 0; i < numbers.length; i++) {
            x.write(0, i, numbers[i]);
        }
        return x;
    }

    private void numbersAre(HundredthSheep x, int slot, int width, int[] numbers) {
        x.row(3, width, 1);
        for (int i = 0; i < numbers.length; i++) {
            is("paste of number " + i, x.paste(slot, i, 3, 0, 1), 0);
            is("number " + i, x.wrong(3, numbers[i]), 0);
        }
    }

    public static void main(String[] args) throws IOException {
        KeepTests tests = new KeepTests();
        tests.mixed();
        tests.luck();
        tests.free();
        tests.all();
        tests.counts();
        tests.images();
        tests.rows();
        tests.writes();
        tests.cuts();
        tests.pastes();
        tests.pastedNumbers();
        tests.close();
    }
}
