import java.io.IOException;

/** Promises 28 to 32, who paid and what is told: each bound that a sentence names, and what is left as it was. */
public final class OrderTests extends Trial {
    private OrderTests() throws IOException {
        super();
    }

    private void orders() {
        sentence("-2: there are none such, a number is no owner (asked last, behind -6 and -3); -6: it has nothing; -3: there "
            + "are more than six.");
        for (int slot : notBelow(4)) {
            ordersRefused("slot " + slot, slot, 0, 0, -2);
        }
        for (int wrong : notBelow(3)) {
            ordersRefused("gap " + wrong, 0, wrong, 0, -2);
            ordersRefused("day " + wrong, 0, 0, wrong, -2);
            ordersRefused("gap " + wrong + ", a slot of nothing", 3, wrong, 0, -2);
        }
        ordersRefused("a slot of nothing", 3, 0, 0, -6);
        ordersRefused("4, 5 are no owners", 1, 0, 0, -2);
        needsMoor("orders(0, 0, 0)", y -> y.orders(0, 0, 0));
        needsMoor("order(0, 0, 0, 0)", y -> y.order(0, 0, 0, 0));
        needsMoor("sure(0, 0, 0, 0)", y -> y.sure(0, 0, 0, 0));
        refusedWithoutMoor("orders of nothing", y -> y.orders(3, 0, 0));
        for (int n = 1; n <= 8; n++) {
            ordersOf(n);
        }
        noOwners();
    }

    private void ordersRefused(String why, int slot, int gap, int day, int answer) {
        refused("orders, " + why, y -> y.orders(slot, gap, day), answer);
        refused("order, " + why, y -> y.order(slot, gap, day, 0), answer);
        refused("sure, " + why, y -> y.sure(slot, gap, day, 0), answer);
    }

    /** So many drives at one gap, none due: all orders explain that nobody paid. */
    private void ordersOf(int many) {
        int[] orders = {1, 1, 2, 6, 24, 120, 720};
        HundredthSheep x = told(moor(1, 1, 100, 1) + repeat(DRIVE + ";", many));
        is("orders, nothing", x.orders(0, 0, 0), -6);
        x.row(0, 0, 0);
        boolean tooMany = many > 6;
        is("orders of " + many, x.orders(0, 0, 0), tooMany ? -3 : orders[many]);
        is("order, the first, of " + many, x.order(0, 0, 0, 0), tooMany ? -3 : 0);
        is("order, the last, of " + many, x.order(0, 0, 0, many - 1), tooMany ? -3 : many - 1);
        is("order behind " + many, x.order(0, 0, 0, many), tooMany ? -3 : -1);
        is("order below 0", x.order(0, 0, 0, -1), tooMany ? -3 : -1);
        is("sure of " + many, x.sure(0, 0, 0, 0), tooMany ? -3 : many == 1 ? 0 : -1);
        is("orders behind -3, nothing", x.orders(1, 0, 0), -6);
        rowOf(x, 0, 0);
        is("orders of one who paid", x.orders(0, 0, 0), tooMany ? -3 : 0);
        rowOf(x, 0, 1);
        is("orders of no owner, of " + many, x.orders(0, 0, 0), tooMany ? -3 : -2);
        is("order of no owner, of " + many, x.order(0, 0, 0, 0), tooMany ? -3 : -2);
        is("sure of no owner, of " + many, x.sure(0, 0, 0, 0), tooMany ? -3 : -2);
        is("sure of no drive", x.sure(0, 0, 0, many), -2);
    }

    private void noOwners() {
        HundredthSheep x = told(moor(1, 1, 2, 1) + "owners 5;" + drive(4, 0, 0, 0, 2) + ";");
        long[][] rows = {{4, 1}, {0, 0}, {5, -2}, {-1, -2}, {MOST, -2}, {LEAST, -2}};
        for (long[] row : rows) {
            rowOf(x, 0, row[0]);
            is("orders of " + row[0], x.orders(0, 0, 0), row[1]);
        }
        rowOf(x, 0, 4, 5);
        is("orders, the last is no owner", x.orders(0, 0, 0), -2);
        x.row(0, 3, 60);
        is("orders of a full row", x.orders(0, 0, 0), 0);
        x.write(0, 59, 5);
        is("orders of a full row, the last is no owner", x.orders(0, 0, 0), -2);
        x.row(1, 3, 1);
        x.write(1, 0, (1L << 32) + 4);
        is("orders of a great number", x.orders(1, 0, 0), -2);
        // sixty who paid, and one more than a row has
        HundredthSheep sixty = told(moor(1, 2, 2, 1) + drive(0, 0, 0, 0, 99) + " lambs 21;" + drive(0, 0, 1, 0, 99) + " lambs 23;");
        sixty.row(0, 0, 60);
        is("orders of sixty", sixty.orders(0, 0, 0), 1);
        is("orders of sixty-one", sixty.orders(0, 0, 1), 0);
        HundredthSheep two = told(moor(1, 1, 2, 1) + drive(0, 0, 0, 0, 60) + ";" + drive(0, 0, 0, 0, 62) + ";");
        two.row(0, 0, 60);
        is("orders of sixty-one, by two", two.orders(0, 0, 0), 0);
        sixty.row(0, 0, 59);
        is("orders of one too few", sixty.orders(0, 0, 0), 0);
    }

    private void whoPaid() {
        sentence("ORDERS (V): in how many orders the DRIVES that go through a GAP on a DAY can have gone so that owners who paid "
            + "there then are, one by one, a SLOT's row.");
        // two and two: the one that goes first pays first; the second drive is painted by 2; others pay elsewhere and on the other day
        HundredthSheep x = told(moor(2, 2, 2, 1) + "owners 4;" + drive(0, 0, 0, 0, 2) + ";" + drive(1, 0, 0, 0, 2) + " painted 2;"
            + drive(3, 1, 0, 0, 2) + ";" + drive(3, 0, 1, 0, 2) + ";" + drive(3, 0, 0, 23, 2) + " lame;");
        long[][] rows = {{0, 2}, {2, 0}, {0}, {2}, {}, {0, 2, 0}, {0, 2, 3}, {3, 0, 2}, {0, 0}, {2, 2}, {1, 0}, {0, 1}};
        int[] orders = {1, 1, 0, 0, 0, 0, 0, 0, 0, 0, 0, 0};
        for (int i = 0; i < rows.length; i++) {
            rowOf(x, 0, rows[i]);
            is("orders(0, 0, 0) of row " + i, x.orders(0, 0, 0), orders[i]);
        }
        rowOf(x, 0, 3);
        is("orders(0, 1, 0)", x.orders(0, 1, 0), 1);
        rowOf(x, 0, 3, 3);
        is("orders(0, 0, 1)", x.orders(0, 0, 1), 2);
        x.row(0, 0, 0);
        is("orders(0, 1, 1) of nobody", x.orders(0, 1, 1), 1);
        // with due 0 they pay a due all the same
        x.law(4, 0);
        rowOf(x, 0, 2, 0);
        is("orders(0, 0, 0), due 0", x.orders(0, 0, 0), 1);
    }

    private void order() {
        sentence("The DRIVE at place i of the first such order (the least DRIVES first). NONE: there are not so many, there is "
            + "none; -2, -6, -3 likewise.");
        // of two, one and one the third is due: 0 by 1 0 2, 1 0 2 and others, 1 by 0 1 2, 2 by 0 2 1
        HundredthSheep x = told(moor(1, 1, 3, 1) + "owners 4;" + drive(0, 0, 0, 0, 2) + ";" + drive(1, 0, 0, 0, 1) + ";" + drive(2, 0, 0, 0, 1) + ";");
        int[][] orders = {{1, 0, 2}, {0, 1, 2}, {0, 2, 1}, {-1, -1, -1}};
        for (int owner = 0; owner < 4; owner++) {
            rowOf(x, 0, owner);
            for (int i = 0; i < 3; i++) {
                is("order(0, 0, 0, " + i + ") of " + owner, x.order(0, 0, 0, i), orders[owner][i]);
            }
            int[] beyond = {LEAST, -1, 3, 4, 6, 12, MOST};
            for (int i : beyond) {
                is("order(0, 0, 0, " + i + ") of " + owner, x.order(0, 0, 0, i), -1);
            }
        }
        HundredthSheep none = told(MOOR);
        none.row(0, 0, 0);
        is("orders of no drives", none.orders(0, 0, 0), 1);
        is("order of no drives", none.order(0, 0, 0, 0), -1);
        sentence("The place of a DRIVE in all of these; NONE: not the same, there are none, it does not go there then. -2, -6, "
            + "-3 likewise, no such DRIVE.");
        int[][] sure = {{-1, -1, -1}, {0, 1, 2}, {0, 2, 1}, {-1, -1, -1}};
        for (int owner = 0; owner < 4; owner++) {
            rowOf(x, 0, owner);
            for (int i = 0; i < 3; i++) {
                is("sure(0, 0, 0, " + i + ") of " + owner, x.sure(0, 0, 0, i), sure[owner][i]);
            }
        }
        for (int i : notBelow(5)) {
            refused("sure(0, 0, 0, " + i + ")", y -> y.sure(0, 0, 0, i), -2);
            refused("sure(3, 0, 0, " + i + ") of nothing", y -> y.sure(3, 0, 0, i), -2);
        }
        sureElsewhere();
    }

    private void sureElsewhere() {
        HundredthSheep x = told(moor(2, 2, 9, 1) + drive(0, 0, 0, 0, 1) + ";" + drive(0, 1, 0, 0, 1) + ";" + drive(0, 0, 1, 0, 1) + ";"
            + drive(0, 0, 0, 23, 1) + " lame;" + drive(0, 0, 1, 23, 1) + " lame;");
        x.row(0, 0, 0);
        int[] here = {0, -1, -1, -1, -1};
        for (int i = 0; i < 5; i++) {
            is("sure(0, 0, 0, " + i + ")", x.sure(0, 0, 0, i), here[i]);
        }
        is("orders(0, 0, 1)", x.orders(0, 0, 1), 2);
        is("order(0, 0, 1, 0)", x.order(0, 0, 1, 0), 2);
        is("order(0, 0, 1, 1)", x.order(0, 0, 1, 1), 3);
    }

    private void wrong() {
        sentence("-2: there is no such SLOT, DAY, a number is not 0 .. 9,999 (asked last); -6: it has nothing; -7: there are not "
            + "as many as GAPS.");
        for (int slot : notBelow(4)) {
            toldRefused("slot " + slot, slot, 0, -2);
        }
        for (int day : notBelow(3)) {
            toldRefused("day " + day, 0, day, -2);
            toldRefused("day " + day + ", nothing", 3, day, -2);
        }
        toldRefused("nothing", 3, 0, -6);
        toldRefused("two of three", 1, 0, -7);
        toldRefused("none of three", 2, 0, -7);
        needsMoor("wrong(0, 0)", y -> y.wrong(0, 0));
        needsMoor("anew(0, 2)", y -> y.anew(0, 2));
        refusedWithoutMoor("wrong of nothing", y -> y.wrong(3, 0));
        for (int gaps = 1; gaps <= 4; gaps++) {
            numbersTold(gaps);
        }
        beastsTold();
    }

    private void beastsTold() {
        sentence("COUNTED: a SLOT's row of how many are told to have gone through all GAPS in order on a DAY (all beasts): how "
            + "many are not so.");
        // lambs that pass and those that are missed have gone through; one that is lame goes on the next day, or never
        HundredthSheep x = told(moor(3, 2, 9, 1) + "law pass;" + drive(0, 0, 0, 0, 5) + " lambs 4;" + drive(0, 1, 0, 0, 3) + ";"
            + drive(0, 2, 0, 23, 7) + " lame;" + drive(0, 2, 1, 23, 6) + " lame;fog 1 on 0 misses 2;");
        long[][] rows = {{9, 3, 0}, {5, 3, 0}, {9, 2, 0}, {9, 3, 7}, {3, 9, 0}, {0, 3, 9}, {0, 0, 7}, {0, 0, 13}};
        int[] first = {0, 1, 1, 1, 2, 2, 3, 3};
        int[] second = {3, 3, 3, 2, 3, 2, 0, 1};
        for (int i = 0; i < rows.length; i++) {
            rowOf(x, 0, rows[i]);
            is("wrong(0, 0) of row " + i, x.wrong(0, 0), first[i]);
            is("wrong(0, 1) of row " + i, x.wrong(0, 1), second[i]);
        }
    }

    private void toldRefused(String why, int slot, int day, int answer) {
        refused("wrong, " + why, y -> y.wrong(slot, day), answer);
        refused("anew, " + why, y -> y.anew(slot, day), answer);
    }

    private void numbersTold(int gaps) {
        HundredthSheep x = told(moor(gaps, 1, 2, 1));
        for (int n = 0; n <= 6; n++) {
            x.row(0, 2, n);
            is("wrong of " + n + " for " + gaps, x.wrong(0, 0), n == gaps ? 0 : -7);
            is("anew of " + n + " for " + gaps, x.anew(0, 0), n == gaps ? 0 : -7);
            if (n > 0) {
                x.write(0, n - 1, -1);
                is("wrong of " + n + " for " + gaps + ", below 0", x.wrong(0, 0), n == gaps ? -2 : -7);
                is("anew of " + n + " for " + gaps + ", below 0", x.anew(0, 0), n == gaps ? -2 : -7);
            }
        }
        int[][] numbers = {{-1, -2}, {0, 0}, {1, 1}, {9999, 1}, {10000, -2}, {LEAST, -2}, {MOST, -2}};
        for (int at = 0; at < gaps; at++) {
            for (int[] number : numbers) {
                x.row(0, 2, gaps);
                x.write(0, at, number[0]);
                is("wrong of " + number[0], x.wrong(0, 0), number[1]);
            }
        }
        x.row(0, 2, gaps);
        for (int at = 0; at < gaps; at++) {
            x.write(0, at, 9999);
            is("wrong of " + (at + 1), x.wrong(0, 0), at + 1);
        }
    }

    private void anew() {
        sentence("The least number of GAPS that are to be counted anew on a DAY, if one that is told may be wrong and what all "
            + "have together is sure (0: what they have told is that; else the least k by which 2 to the k is no less than "
            + "GAPS). -2, -6, -7 likewise.");
        int[] least = {0, 0, 1, 2, 2};
        for (int gaps = 1; gaps <= 4; gaps++) {
            HundredthSheep x = told(moor(gaps, 1, 2, 1) + drive(0, gaps - 1, 0, 0, 5) + " lambs 2;");
            x.row(0, 2, gaps);
            is("anew of too few, gaps " + gaps, x.anew(0, 0), least[gaps]);
            x.write(0, 0, 7);
            is("anew of what it is, gaps " + gaps, x.anew(0, 0), 0);
            is("wrong, gaps " + gaps, x.wrong(0, 0), gaps == 1 ? 0 : 2);
            x.write(0, 0, 6);
            is("anew of one too few, gaps " + gaps, x.anew(0, 0), least[gaps]);
            x.write(0, 0, 8);
            is("anew of one too many, gaps " + gaps, x.anew(0, 0), least[gaps]);
            for (int gap = 0; gap < gaps; gap++) {
                x.write(0, gap, 9999);
            }
            is("anew of the most, gaps " + gaps, x.anew(0, 0), least[gaps]);
        }
    }

    public static void main(String[] args) throws IOException {
        OrderTests tests = new OrderTests();
        tests.orders();
        tests.whoPaid();
        tests.order();
        tests.wrong();
        tests.anew();
        tests.close();
    }
}
