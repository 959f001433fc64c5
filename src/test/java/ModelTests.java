import java.util.ArrayList;
import java.util.Arrays;
import java.util.List;
import java.util.Random;

/** Random texts and calls, each answer beside that of a plain model that lets every beast go by itself. */
public final class ModelTests {
    private static int wrong = 0;

    private static final class D implements Cloneable {
        int owner, gap, day, hour, sheep, lambs, payer, lame;

        D twin() {
            try {
                return (D) super.clone();
            } catch (CloneNotSupportedException e) {
                throw new IllegalStateException(e);
            }
        }
    }

    private record Due(int day, int hour, int gap, int payer, int drive, int place) { }

    private record Beast(int drive, boolean lamb, int place) { }

    /** What a run of a whole moor came to. */
    private static final class Run {
        final List<Due> dues = new ArrayList<>();
        int[][] behind; // the counters behind each hour
        int[][] counted; // by gap and day

        int paidBy(int owner, int due) {
            int n = 0;
            for (Due d : dues) {
                n += d.payer == owner ? due : 0;
            }
            return n;
        }

        int paidByOthers(int owner, int due) {
            return dues.size() * due - paidBy(owner, due);
        }
    }

    private static final class M {
        int gaps, days, owners = 1, lambsFrom, lines, fogs;
        int[] law = new int[5];
        int[] start = new int[4];
        int[][] fog = new int[4][9];
        List<D> drives = new ArrayList<>();

        M twin() {
            M m = new M();
            m.gaps = gaps;
            m.days = days;
            m.owners = owners;
            m.lambsFrom = lambsFrom;
            m.lines = lines;
            m.fogs = fogs;
            m.law = law.clone();
            m.start = start.clone();
            for (int g = 0; g < 4; g++) {
                m.fog[g] = fog[g].clone();
            }
            for (D d : drives) {
                m.drives.add(d.twin());
            }
            return m;
        }

        int when(D d) {
            int t = 24 * d.day + d.hour + (d.lame == 1 ? 1 : 0);
            return t >= 24 * days ? -1 : t;
        }

        private List<Beast> herd(int t, int g) {
            List<Beast> herd = new ArrayList<>();
            for (int i = 0; i < drives.size(); i++) {
                D d = drives.get(i);
                if (when(d) == t && d.gap == g) {
                    for (int k = 0; k < d.sheep; k++) {
                        herd.add(new Beast(i, false, k));
                    }
                    for (int k = 0; k < d.lambs; k++) {
                        herd.add(new Beast(i, true, d.sheep + k));
                    }
                }
            }
            return herd;
        }

        Run run(long seed) {
            Run run = new Run();
            run.behind = new int[24 * days][gaps];
            run.counted = new int[gaps][days];
            long x = seed;
            int[] c = new int[gaps];
            for (int g = 0; g < gaps; g++) {
                c[g] = start[law[0] == 1 ? 0 : g];
            }
            boolean[] any = new boolean[24 * days];
            for (D d : drives) {
                if (when(d) >= 0) {
                    any[when(d)] = true;
                }
            }
            for (int day = 0; day < days; day++) {
                if (day > 0 && law[1] == 1) {
                    Arrays.fill(c, 0);
                }
                int[] would = new int[gaps];
                for (int hour = 0; hour < 24; hour++) {
                    for (int g = 0; g < gaps && any[24 * day + hour]; g++) {
                        List<Beast> herd = herd(24 * day + hour, g);
                        if (seed >= 0) {
                            for (int k = herd.size() - 1; k >= 1; k--) {
                                x = (1103515245L * x + 12345L) & 0x7fffffffL;
                                int j = (int) ((x >> 16) % (k + 1));
                                Beast was = herd.get(k);
                                herd.set(k, herd.get(j));
                                herd.set(j, was);
                            }
                        }
                        for (Beast b : herd) {
                            if (b.lamb && (law[2] == 1 || day < lambsFrom)) {
                                continue;
                            }
                            would[g]++;
                            if (fog[g][day] != 0 && would[g] % fog[g][day] == 0) {
                                continue;
                            }
                            run.counted[g][day]++;
                            int w = law[0] == 1 ? 0 : g;
                            c[w]++;
                            if (c[w] >= law[3]) {
                                c[w] = 0;
                                run.dues.add(new Due(day, hour, g, drives.get(b.drive).payer, b.drive, b.place));
                            }
                        }
                    }
                    for (int g = 0; g < gaps; g++) {
                        run.behind[24 * day + hour][g] = c[law[0] == 1 ? 0 : g];
                    }
                }
            }
            return run;
        }

        Run run() {
            return run(-1);
        }

        int pay(int owner) {
            return run().paidBy(owner, law[4]);
        }

        int[] best(int i) {
            D d = drives.get(i);
            int g0 = d.gap;
            int h0 = d.hour;
            int[] best = null;
            for (int g = 0; g < gaps; g++) {
                for (int h = 0; h < 24; h++) {
                    d.gap = g;
                    d.hour = h;
                    int p = pay(d.owner);
                    if (best == null || p < best[0]) {
                        best = new int[] {p, g, h};
                    }
                }
            }
            d.gap = g0;
            d.hour = h0;
            return best;
        }

        int[] split(int i) {
            int[] best = null;
            D d = drives.get(i);
            for (int stay = 1; stay <= d.sheep - 1; stay++) {
                M m = twin();
                D other = d.twin();
                other.sheep = d.sheep - stay;
                m.drives.get(i).sheep = stay;
                m.drives.get(i).lambs = 0;
                m.drives.add(other);
                int[] b = m.best(m.drives.size() - 1);
                if (best == null || b[0] < best[0]) {
                    best = new int[] {b[0], stay, b[1], b[2]};
                }
            }
            return best;
        }

        int rest() {
            for (int i = 0; i < drives.size(); i++) {
                if (best(i)[0] < pay(drives.get(i).owner)) {
                    return i;
                }
            }
            return -1;
        }

        /** Moves this one: how many times till all rest. */
        int rests(int n) {
            int times = 0;
            while (true) {
                int i = rest();
                if (i < 0) {
                    return times;
                }
                if (times == n) {
                    return -1;
                }
                int[] b = best(i);
                drives.get(i).gap = b[1];
                drives.get(i).hour = b[2];
                times++;
            }
        }

        int ewe(int owner, int gap, int day, int hour) {
            M m = twin();
            D d = new D();
            d.owner = owner;
            d.payer = owner;
            d.gap = gap;
            d.day = day;
            d.hour = hour;
            d.sheep = 1;
            m.drives.add(d);
            return m.run().paidByOthers(owner, law[4]) - run().paidByOthers(owner, law[4]);
        }

        int harm(int i) {
            int owner = drives.get(i).owner;
            M m = twin();
            m.drives.remove(i);
            return run().paidByOthers(owner, law[4]) - m.run().paidByOthers(owner, law[4]);
        }

        int last(int gap) {
            return run().behind[24 * days - 1][gap];
        }

        int ring(int gap, int n, int r) {
            int c = last(gap);
            int dues = 0;
            for (int k = 0; k < n * r; k++) {
                if (++c >= law[3]) {
                    c = 0;
                    dues++;
                }
            }
            return dues;
        }

        int rounds(int gap, int n) {
            int c = last(gap);
            for (int r = 1; r <= law[3]; r++) {
                boolean due = false;
                for (int k = 0; k < n; k++) {
                    due = ++c >= law[3];
                    c = due ? 0 : c;
                }
                if (due) {
                    return r;
                }
            }
            return -1;
        }

        List<Integer> goers(int gap, int day) {
            List<Integer> goers = new ArrayList<>();
            for (int i = 0; i < drives.size(); i++) {
                int t = when(drives.get(i));
                if (t >= 0 && t / 24 == day && drives.get(i).gap == gap) {
                    goers.add(i);
                }
            }
            return goers;
        }

        /** All orders that explain a row: the drives are moved, in thought, to hours that make the order. */
        List<List<Integer>> orders(long[] row, int gap, int day) {
            List<List<Integer>> found = new ArrayList<>();
            permute(new ArrayList<>(), goers(gap, day), row, gap, day, found);
            return found;
        }

        private void permute(List<Integer> chosen, List<Integer> rest, long[] row, int gap, int day,
                List<List<Integer>> found) {
            if (rest.isEmpty()) {
                if (explains(chosen, row, gap, day)) {
                    found.add(new ArrayList<>(chosen));
                }
                return;
            }
            for (Integer i : rest) {
                List<Integer> more = new ArrayList<>(chosen);
                more.add(i);
                List<Integer> fewer = new ArrayList<>(rest);
                fewer.remove(i);
                permute(more, fewer, row, gap, day, found);
            }
        }

        private boolean explains(List<Integer> order, long[] row, int gap, int day) {
            M m = twin();
            // those at other gaps go at 0 in their order of going, ours behind them, one each hour
            for (D d : m.drives) {
                int t = when(d);
                if (t >= 0 && t / 24 == day) {
                    d.lame = 0;
                    d.day = day;
                    d.hour = 0;
                }
            }
            List<Integer> others = new ArrayList<>();
            for (int t = 24 * day; t < 24 * day + 24; t++) {
                for (int g = 0; g < gaps; g++) {
                    for (int i = 0; i < drives.size(); i++) {
                        if (when(drives.get(i)) == t && drives.get(i).gap == g && g != gap) {
                            others.add(i);
                        }
                    }
                }
            }
            int hour = 0;
            for (Integer i : others) {
                m.drives.get(i).hour = hour++;
            }
            for (Integer i : order) {
                m.drives.get(i).hour = hour++;
            }
            List<Integer> who = new ArrayList<>();
            for (Due d : m.run().dues) {
                if (d.gap == gap && d.day == day) {
                    who.add(d.payer);
                }
            }
            if (who.size() != row.length) {
                return false;
            }
            for (int i = 0; i < row.length; i++) {
                if (who.get(i) != row[i]) {
                    return false;
                }
            }
            return true;
        }
    }

    private static final class Fault extends RuntimeException {
        private static final long serialVersionUID = 1L;
        final int kind;
        final int place;

        Fault(int kind, int place) {
            this.kind = kind;
            this.place = place;
        }
    }

    /** Reads a text by patterns: a # is a number, its bounds are asked for by the name behind it. */
    private static final class P {
        final List<String> tokens = new ArrayList<>();
        final List<Integer> places = new ArrayList<>();
        int i = 0;
        M m = new M();

        P(String text) {
            int k = 0;
            while (k < text.length()) {
                char ch = text.charAt(k);
                int from = k++;
                if (ch == ' ' || ch == '\n') {
                    continue;
                }
                if (ch >= 'a' && ch <= 'z') {
                    while (k < text.length() && text.charAt(k) >= 'a' && text.charAt(k) <= 'z') {
                        k++;
                    }
                } else if (ch >= '0' && ch <= '9') {
                    while (k < text.length() && text.charAt(k) >= '0' && text.charAt(k) <= '9') {
                        k++;
                    }
                }
                tokens.add(text.substring(from, k));
                places.add(from);
            }
            tokens.add("");
            places.add(text.length());
        }

        void need(String word) {
            if (!tokens.get(i).equals(word)) {
                throw new Fault(1, places.get(i));
            }
            i++;
        }

        boolean may(String word) {
            if (tokens.get(i).equals(word)) {
                i++;
                return true;
            }
            return false;
        }

        int num(int least, int most) {
            if (!tokens.get(i).matches("[0-9]+")) {
                throw new Fault(1, places.get(i));
            }
            java.math.BigInteger n = new java.math.BigInteger(tokens.get(i));
            if (n.compareTo(java.math.BigInteger.valueOf(least)) < 0 || n.compareTo(java.math.BigInteger.valueOf(most)) > 0) {
                throw new Fault(2, places.get(i));
            }
            i++;
            return n.intValue();
        }

        M read() {
            boolean owners = false;
            while (!tokens.get(i).isEmpty()) {
                int place = places.get(i);
                String word = tokens.get(i);
                if (m.lines == 0) {
                    need("moor");
                    need("gaps");
                    m.gaps = num(1, 4);
                    need("days");
                    m.days = num(1, 9);
                    need("each");
                    m.law[3] = num(2, 100);
                    need("due");
                    m.law[4] = num(0, 999);
                } else if (may("law")) {
                    int w = Arrays.asList("gaps", "all", "keep", "clear", "count", "pass").indexOf(tokens.get(i));
                    if (w < 0) {
                        throw new Fault(1, places.get(i));
                    }
                    i++;
                    m.law[w / 2] = w % 2;
                } else if (may("owners")) {
                    if (owners || !m.drives.isEmpty()) {
                        throw new Fault(2, place);
                    }
                    owners = true;
                    m.owners = num(1, 5);
                } else if (may("start")) {
                    int g = num(0, m.gaps - 1);
                    need("is");
                    m.start[g] = num(0, m.law[3] - 1);
                } else if (word.equals("lambs")) {
                    i++;
                    need("from");
                    m.lambsFrom = num(0, m.days - 1);
                } else if (word.equals("drive")) {
                    if (m.drives.size() == 12) {
                        throw new Fault(3, place);
                    }
                    m.drives.add(drive());
                } else if (word.equals("fog")) {
                    if (m.fogs == 8) {
                        throw new Fault(3, place);
                    }
                    i++;
                    int g = num(0, m.gaps - 1);
                    need("on");
                    int day = num(0, m.days - 1);
                    need("misses");
                    m.fog[g][day] = num(2, 9);
                    m.fogs++;
                } else {
                    throw new Fault(1, place);
                }
                need(";");
                m.lines++;
            }
            return m;
        }

        D drive() {
            D d = new D();
            need("drive");
            d.owner = num(0, m.owners - 1);
            need("gap");
            d.gap = num(0, m.gaps - 1);
            need("on");
            d.day = num(0, m.days - 1);
            need("at");
            d.hour = num(0, 23);
            need("sheep");
            d.sheep = num(1, 99);
            d.payer = d.owner;
            if (may("lambs")) {
                d.lambs = num(0, 99);
            }
            if (may("painted")) {
                d.payer = num(0, m.owners - 1);
                if (d.payer == d.owner) {
                    throw new Fault(2, places.get(i - 1));
                }
            }
            d.lame = may("lame") ? 1 : 0;
            return d;
        }
    }

    // ---- texts by chance

    private static String text(Random r, boolean small) {
        int gaps = 1 + r.nextInt(4);
        int days = 1 + r.nextInt(small ? 3 : 9);
        int each = r.nextInt(4) == 0 ? 2 + r.nextInt(99) : 2 + r.nextInt(12);
        int owners = 1 + r.nextInt(5);
        int most = small || r.nextInt(3) > 0 ? 9 : 99;
        StringBuilder s = new StringBuilder();
        s.append("moor gaps ").append(gaps).append(" days ").append(days).append(" each ").append(each);
        s.append(" due ").append(r.nextInt(6) == 0 ? 0 : r.nextInt(1000)).append(";");
        if (owners > 1) {
            s.append("owners ").append(owners).append(";");
        }
        int lines = r.nextInt(22);
        int drives = 0;
        int fogs = 0;
        for (int i = 0; i < lines; i++) {
            int kind = r.nextInt(9);
            if (kind == 0) {
                s.append("law ").append(new String[] {"gaps", "all", "keep", "clear", "count", "pass"}[r.nextInt(6)]).append(";");
            } else if (kind == 1) {
                s.append("start ").append(r.nextInt(gaps)).append(" is ").append(r.nextInt(each)).append(";");
            } else if (kind == 2) {
                s.append("lambs from ").append(r.nextInt(days)).append(";");
            } else if (kind == 3 && fogs++ < 8) {
                s.append("fog ").append(r.nextInt(gaps)).append(" on ").append(r.nextInt(days));
                s.append(" misses ").append(2 + r.nextInt(8)).append(";");
            } else if (kind > 3 && drives++ < 12) {
                drive(r, s, gaps, days, owners, most);
            }
        }
        return s.toString();
    }

    private static void drive(Random r, StringBuilder s, int gaps, int days, int owners, int most) {
        int owner = r.nextInt(owners);
        int hour = r.nextInt(3) == 0 ? 20 + r.nextInt(4) : r.nextInt(6);
        s.append("drive ").append(owner).append(" gap ").append(r.nextInt(gaps)).append(" on ").append(r.nextInt(days));
        s.append(" at ").append(hour).append(" sheep ").append(1 + r.nextInt(most));
        if (r.nextInt(2) == 0) {
            s.append(" lambs ").append(r.nextInt(most));
        }
        if (owners > 1 && r.nextInt(3) == 0) {
            s.append(" painted ").append((owner + 1 + r.nextInt(owners - 1)) % owners);
        }
        s.append(r.nextInt(3) == 0 ? " lame;" : ";");
    }

    /** A text with a few places changed: a sign, a token lost, put twice or put by another. */
    private static String spoil(Random r, String text) {
        String[] others = {";", "moor", "law", "owners", "drive", "fog", "lame", "lambs", "7", "0", "100", "x", "?", "painted 0"};
        String s = text.replace(";", " ; ");
        int times = 1 + r.nextInt(2);
        for (int k = 0; k < times; k++) {
            String[] tokens = s.trim().split("\\s+");
            int at = r.nextInt(tokens.length);
            int how = r.nextInt(4);
            if (how == 0) {
                tokens[at] = "";
            } else if (how == 1) {
                tokens[at] = tokens[at] + " " + tokens[at];
            } else if (how == 2) {
                tokens[at] = others[r.nextInt(others.length)];
            } else {
                tokens = Arrays.copyOf(tokens, at);
            }
            s = String.join(r.nextInt(2) == 0 ? " " : "\n ", tokens);
        }
        return s;
    }

    // ---- the calls beside the model

    private static String now = "";

    private static void is(String call, long got, long want) {
        if (got != want) {
            wrong++;
            if (wrong < 20) {
                System.out.println(now + "\n  " + call + " answered " + got + ", due is " + want);
            }
        }
    }

    private static void faults(int rounds) {
        Random r = new Random(7);
        HundredthSheep x = new HundredthSheep();
        for (int i = 0; i < rounds; i++) {
            now = spoil(r, text(r, r.nextBoolean()));
            if (now.length() > 1600) {
                continue;
            }
            Trial.type(x, now);
            int lines = x.moor();
            try {
                M m = new P(now).read();
                is("moor()", lines, m.lines);
                is("fault(0)", x.fault(0), 0);
                is("fault(1)", x.fault(1), -1);
            } catch (Fault f) {
                is("moor()", lines, -4);
                is("fault(0)", x.fault(0), f.kind);
                is("fault(1)", x.fault(1), f.place);
                is("count(6)", x.count(6), now.length());
                x.end(0);
            }
        }
    }

    private static void counted(HundredthSheep x, M m) {
        Run run = m.run();
        is("dues()", x.dues(), run.dues.size());
        for (int i = 0; i < run.dues.size(); i++) {
            Due d = run.dues.get(i);
            int[] due = {d.day, d.hour, d.gap, d.payer, d.drive, d.place};
            for (int what = 0; what < 6; what++) {
                is("due(" + i + ", " + what + ")", x.due(i, what), due[what]);
            }
        }
        is("due(beyond)", x.due(run.dues.size(), 0), -1);
        for (int g = 0; g < m.gaps; g++) {
            for (int t = 0; t < 24 * m.days; t++) {
                is("counter(" + g + ", " + t / 24 + ", " + t % 24 + ")", x.counter(g, t / 24, t % 24), run.behind[t][g]);
            }
            for (int day = 0; day < m.days; day++) {
                int beasts = 0;
                for (int i : m.goers(g, day)) {
                    beasts += m.drives.get(i).sheep + m.drives.get(i).lambs;
                }
                is("through(0)", x.through(g, day, 0), beasts);
                is("through(1)", x.through(g, day, 1), run.counted[g][day]);
            }
            is("left(" + g + ")", x.left(g), Math.max(1, m.law[3] - m.last(g)));
        }
        int worst = -1;
        int[] owed = new int[m.owners];
        for (int o = 0; o < m.owners; o++) {
            is("paid(" + o + ")", x.paid(o), run.paidBy(o, m.law[4]));
            for (int day = 0; day < m.days; day++) {
                int n = 0;
                for (Due d : run.dues) {
                    n += d.payer == o && d.day == day ? 1 : 0;
                }
                is("pays(" + o + ", " + day + ")", x.pays(o, day), n);
            }
            owed[o] = run.paidBy(o, 1);
            if (owed[o] > 0 && (worst < 0 || owed[o] > owed[worst])) {
                worst = o;
            }
        }
        is("worst()", x.worst(), worst);
        for (int i = 0; i < m.drives.size(); i++) {
            D d = m.drives.get(i);
            int[] told = {d.owner, d.gap, d.day, d.hour, d.sheep, d.lambs, d.payer, d.lame};
            for (int what = 0; what < 8; what++) {
                is("drive(" + i + ", " + what + ")", x.drive(i, what), told[what]);
            }
            is("goes(" + i + ")", x.goes(i), m.when(d));
        }
        int[] counts = {m.gaps, m.days, m.owners, m.drives.size(), m.fogs, m.lines, 0, m.lambsFrom};
        for (int what = 0; what < 8; what++) {
            is("count(" + what + ")", x.count(what), counts[what]);
        }
    }

    private static void thought(Random r, HundredthSheep x, M m, boolean small) {
        for (int i = 0; i < m.drives.size(); i++) {
            is("harm(" + i + ")", x.harm(i), m.harm(i));
            int[] b = m.best(i);
            for (int what = 0; what < 3; what++) {
                is("best(" + i + ", " + what + ")", x.best(i, what), b[what]);
            }
        }
        if (!m.drives.isEmpty()) {
            int i = r.nextInt(m.drives.size());
            if (m.drives.get(i).sheep <= 9) {
                int[] s = m.split(i);
                for (int what = 0; what < 4; what++) {
                    is("split(" + i + ", " + what + ")", x.split(i, what), s == null ? -1 : s[what]);
                }
            }
        }
        is("rest()", x.rest(), m.rest());
        if (small) {
            int n = r.nextInt(4) == 0 ? 12 : r.nextInt(4);
            M moved = m.twin();
            is("rests(" + n + ")", x.rests(n), moved.rests(n));
            for (int i = 0; i < m.drives.size(); i++) {
                is("sent(" + i + ", " + n + ")", x.sent(i, n), 100 * moved.drives.get(i).gap + moved.drives.get(i).hour);
            }
        }
        int owner = r.nextInt(m.owners);
        int gap = r.nextInt(m.gaps);
        int day = r.nextInt(m.days);
        int best = 0;
        int[] ewe = new int[24];
        for (int h = 0; h < 24; h++) {
            ewe[h] = m.ewe(owner, gap, day, h);
            is("ewe(" + owner + ", " + gap + ", " + day + ", " + h + ")", x.ewe(owner, gap, day, h), ewe[h]);
            best = ewe[h] > ewe[best] ? h : best;
        }
        is("waits(0)", x.waits(owner, gap, day, 0), best);
        is("waits(1)", x.waits(owner, gap, day, 1), ewe[best]);
    }

    private static void chance(Random r, HundredthSheep x, M m) {
        for (int k = 0; k < 4; k++) {
            int gap = r.nextInt(m.gaps);
            int n = r.nextInt(3) == 0 ? 1 + r.nextInt(999) : 1 + r.nextInt(30);
            int rounds = r.nextInt(100);
            is("ring(" + gap + ", " + n + ", " + rounds + ")", x.ring(gap, n, rounds), m.ring(gap, n, rounds));
            is("rounds(" + gap + ", " + n + ")", x.rounds(gap, n), m.rounds(gap, n));
        }
        int seed = r.nextInt(5) == 0 ? 2000000000 - r.nextInt(3) : r.nextInt(1000000);
        for (int o = 0; o < m.owners; o++) {
            is("mixed(" + seed + ", " + o + ")", x.mixed(seed, o), m.run(seed).paidBy(o, m.law[4]));
            int n = 1 + r.nextInt(20);
            int more = 0;
            for (int k = 0; k < n; k++) {
                more += m.run((long) seed + k).paidBy(o, m.law[4]) > m.pay(o) ? 1 : 0;
            }
            is("luck(" + seed + ", " + n + ", " + o + ")", x.luck(seed, n, o), more);
            int free = -1;
            M other = m.twin();
            for (int each = 100; each >= 2; each--) {
                other.law[3] = each;
                free = other.pay(o) == 0 ? each : free;
            }
            is("free(" + o + ")", x.free(o), free);
        }
        M other = m.twin();
        for (int what = 0; what < 4; what++) {
            other.law[0] = what >= 2 ? 1 : 0;
            other.law[1] = what == 1 || what == 3 ? 1 : 0;
            is("all(" + what + ")", x.all(what), other.run().dues.size() * m.law[4]);
        }
    }

    private static void explained(Random r, HundredthSheep x, M m) {
        for (int gap = 0; gap < m.gaps; gap++) {
            int day = r.nextInt(m.days);
            List<Integer> goers = m.goers(gap, day);
            int slot = r.nextInt(4);
            List<Integer> who = new ArrayList<>();
            for (Due d : m.run().dues) {
                if (d.gap == gap && d.day == day) {
                    who.add(d.payer);
                }
            }
            if (who.size() > 60 || goers.size() > 5) {
                continue;
            }
            long[] row = new long[who.size()];
            x.row(slot, r.nextInt(4), row.length);
            for (int i = 0; i < row.length; i++) {
                row[i] = r.nextInt(12) == 0 ? r.nextInt(m.owners) : who.get(i);
                x.write(slot, i, row[i]);
            }
            List<List<Integer>> found = m.orders(row, gap, day);
            is("orders(" + gap + ", " + day + ")", x.orders(slot, gap, day), found.size());
            for (int i = 0; i <= goers.size(); i++) {
                int due = found.isEmpty() || i == goers.size() ? -1 : found.get(0).get(i);
                is("order(" + gap + ", " + day + ", " + i + ")", x.order(slot, gap, day, i), due);
            }
            for (int i = 0; i < m.drives.size(); i++) {
                int place = found.isEmpty() ? -1 : found.get(0).indexOf(i);
                for (List<Integer> order : found) {
                    place = order.indexOf(i) == place ? place : -1;
                }
                is("sure(" + gap + ", " + day + ", " + i + ")", x.sure(slot, gap, day, i), place);
            }
        }
    }

    private static void change(Random r, HundredthSheep x, M m) {
        for (int k = r.nextInt(4); k > 0; k--) {
            int what = r.nextInt(5);
            int n = what < 3 ? r.nextInt(2) : what == 3 ? 2 + r.nextInt(12) : r.nextInt(20);
            is("law(" + what + ", " + n + ")", x.law(what, n), m.law[what]);
            m.law[what] = n;
        }
        for (int k = r.nextInt(3); k > 0 && !m.drives.isEmpty(); k--) {
            int i = r.nextInt(m.drives.size());
            D d = m.drives.get(i);
            int gap = r.nextInt(m.gaps);
            int hour = r.nextInt(24);
            is("sets(" + i + ", " + gap + ", " + hour + ")", x.sets(i, gap, hour), 100 * d.gap + d.hour);
            d.gap = gap;
            d.hour = hour;
        }
    }

    private static void moors(int rounds) {
        Random r = new Random(100);
        for (int i = 0; i < rounds; i++) {
            boolean small = r.nextInt(3) > 0;
            String text = text(r, small);
            now = text;
            if (text.length() > 1600) {
                continue;
            }
            HundredthSheep x = new HundredthSheep();
            Trial.type(x, text);
            M m = new P(text).read();
            is("moor()", x.moor(), m.lines);
            counted(x, m);
            M kept = m.twin();
            is("keep(1)", x.keep(1), 0);
            change(r, x, m);
            now = text + " changed to law " + Arrays.toString(m.law);
            counted(x, m);
            explained(r, x, m);
            chance(r, x, m);
            if (i % 8 == 0) {
                thought(r, x, m, small);
            }
            counted(x, m);
            is("back(1)", x.back(1), 0);
            counted(x, kept);
        }
    }

    public static void main(String[] args) {
        int rounds = args.length > 0 ? Integer.parseInt(args[0]) : 400;
        faults(rounds * 20);
        moors(rounds);
        System.out.println(wrong == 0 ? "all answers are the model's" : wrong + " answers are not the model's");
        if (wrong != 0) {
            System.exit(1);
        }
    }
}
