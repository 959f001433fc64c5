import java.util.Arrays;

/** A moor whose counters let each so-manieth beast that is counted be due; see README.md. */
public final class HundredthSheep {
    public static final int NONE = -1;

    private static final int NO_SUCH = -2;
    private static final int BELOW_NOTHING = -3;
    private static final int TOO_MANY = -3;
    private static final int FAULTY = -4;
    private static final int HAS_NOTHING = -6;
    private static final int BEYOND = -7;
    private static final int OTHER_WIDTH = -8;

    private static final int HOURS = 24;
    private static final int MOST_GAPS = 4;
    private static final int MOST_DAYS = 9;
    private static final int MOST_OWNERS = 5;
    private static final int MOST_DRIVES = 12;
    private static final int MOST_FOGS = 8;
    private static final int MOST_BEASTS = 99;
    private static final int MOST_EACH = 100;
    private static final int MOST_DUE = 999;
    private static final int UNPAYABLE = 1000000000;
    private static final int MOST_BYTES = 1600;
    private static final int MOST_RESTS = 30;
    private static final int MOST_IN_ORDERS = 6;
    private static final int MOST_ORDERS = 720;
    private static final int MOST_RING = 999;
    private static final int MOST_ROUNDS = 99;
    private static final int MOST_TOLD = 9999;
    private static final int MOST_SEED = 2000000000;
    private static final int MOST_LUCK = 20;
    private static final int IMAGES = 3;
    private static final int SLOTS = 4;
    private static final int WIDTHS = 4;
    private static final int MOST_NUMBERS = 60;

    private static final int BY_ALL = 0;
    private static final int CLEAR = 1;
    private static final int PASS = 2;
    private static final int EACH = 3;
    private static final int DUE = 4;
    private static final int LAWS = 5;

    private final Tape tape;
    private final Reader reader;
    private final Moor moor;
    private final Moor draft;
    private final Moor[] images;
    private final boolean[] kept;
    private final Slots slots;
    private final Walk walk;
    private final Plan plan;
    private final Orders explained;
    private final Mix mix;

    public HundredthSheep() {
        tape = new Tape();
        moor = new Moor();
        draft = new Moor();
        reader = new Reader(tape, draft);
        images = new Moor[IMAGES];
        for (int k = 0; k < IMAGES; k++) {
            images[k] = new Moor();
        }
        kept = new boolean[IMAGES];
        slots = new Slots();
        walk = new Walk();
        plan = new Plan(walk);
        explained = new Orders(walk);
        mix = new Mix(walk);
    }

    // ---- the tape and the moor that is read from it

    public int feed(int a, int b, int c, int d, int e) {
        if (tape.length > MOST_BYTES - 20) {
            return NONE;
        }
        tape.append(a);
        tape.append(b);
        tape.append(c);
        tape.append(d);
        tape.append(e);
        return tape.length;
    }

    public int end(int n) {
        if (n < 0 || n > tape.length) {
            return NONE;
        }
        tape.length = n;
        return n;
    }

    public int moor() {
        reader.begin();
        for (int i = 0; i <= MOST_BYTES && reader.hasMore(); i++) {
            reader.readLine();
        }
        // by a fault all stays, the tape too: end(0) empties it
        if (reader.fault != 0) {
            return FAULTY;
        }
        tape.length = 0;
        moor.copy(draft);
        return moor.lines;
    }

    public int fault(int what) {
        if (what == 0) {
            return reader.fault;
        }
        return what == 1 ? reader.place : NONE;
    }

    // ---- the drives and the law

    public int drive(int drive, int what) {
        if (!moor.hasDrive(drive)) {
            return NO_SUCH;
        }
        Drive d = moor.drive[drive];
        switch (what) {
            case 0: return d.owner;
            case 1: return d.gap;
            case 2: return d.day;
            case 3: return d.hour;
            case 4: return d.sheep;
            case 5: return d.lambs;
            case 6: return d.payer;
            case 7: return d.lame;
            default: return NO_SUCH;
        }
    }

    public int goes(int drive) {
        return moor.hasDrive(drive) ? moor.passage(drive) : NO_SUCH;
    }

    public int law(int what, int n) {
        if (!moor.isTold() || !isLaw(what, n)) {
            return NO_SUCH;
        }
        int was = moor.law[what];
        moor.law[what] = n;
        return was;
    }

    private static boolean isLaw(int what, int n) {
        switch (what) {
            case BY_ALL:
            case CLEAR:
            case PASS: return n == 0 || n == 1;
            case EACH: return n >= 2 && n <= MOST_EACH;
            case DUE: return n >= 0 && n <= MOST_DUE;
            default: return false;
        }
    }

    public int sets(int drive, int gap, int hour) {
        if (!moor.hasDrive(drive) || !moor.hasGap(gap) || !isHour(hour)) {
            return NO_SUCH;
        }
        Drive d = moor.drive[drive];
        int was = d.whither();
        d.gap = gap;
        d.hour = hour;
        return was;
    }

    private static boolean isHour(int hour) {
        return hour >= 0 && hour < HOURS;
    }

    // ---- what is counted and who pays

    public int counter(int gap, int day, int hour) {
        if (!moor.hasGap(gap) || !moor.hasDay(day) || !isHour(hour)) {
            return NO_SUCH;
        }
        walk.goUntil(moor, HOURS * day + hour);
        return walk.counter[moor.counterOf(gap)];
    }

    public int through(int gap, int day, int what) {
        if (!moor.hasGap(gap) || !moor.hasDay(day) || what < 0 || what > 1) {
            return NO_SUCH;
        }
        return what == 0 ? moor.beastsThrough(gap, day) : moor.countedThrough(gap, day);
    }

    public int dues() {
        return moor.isTold() ? walk.tally(moor) : NO_SUCH;
    }

    public int due(int i, int what) {
        if (!moor.isTold() || what < 0 || what > 5) {
            return NO_SUCH;
        }
        if (i < 0 || !walk.findDue(moor, i)) {
            return NONE;
        }
        int number = walk.foundDrive;
        switch (what) {
            case 0: return moor.passage(number) / HOURS;
            case 1: return moor.passage(number) % HOURS;
            case 2: return moor.drive[number].gap;
            case 3: return moor.drive[number].payer;
            case 4: return number;
            default: return walk.foundPlace;
        }
    }

    public int paid(int owner) {
        if (!moor.hasOwner(owner)) {
            return NO_SUCH;
        }
        return walk.sumOf(moor, owner);
    }

    public int pays(int owner, int day) {
        if (!moor.hasOwner(owner) || !moor.hasDay(day)) {
            return NO_SUCH;
        }
        return walk.duesOn(moor, owner, day);
    }

    public int worst() {
        if (!moor.isTold()) {
            return NO_SUCH;
        }
        walk.tally(moor);
        int who = NONE;
        int most = 0;
        for (int owner = 0; owner < moor.owners; owner++) {
            if (walk.owed[owner] > most) {
                most = walk.owed[owner];
                who = owner;
            }
        }
        return who;
    }

    public int left(int gap) {
        return moor.hasGap(gap) ? walk.stillFree(moor, gap) : NO_SUCH;
    }

    // ---- where a drive best goes

    public int best(int drive, int what) {
        if (!moor.hasDrive(drive) || what < 0 || what > 2) {
            return NO_SUCH;
        }
        plan.think(moor);
        plan.seekBest(drive);
        if (what == 0) {
            return plan.least;
        }
        return what == 1 ? plan.gap : plan.hour;
    }

    public int split(int drive, int what) {
        if (!moor.hasDrive(drive) || what < 0 || what > 3) {
            return NO_SUCH;
        }
        if (moor.drive[drive].sheep < 2) {
            return NONE;
        }
        plan.think(moor);
        plan.seekSplit(drive);
        switch (what) {
            case 0: return plan.splitLeast;
            case 1: return plan.splitStay;
            case 2: return plan.splitGap;
            default: return plan.splitHour;
        }
    }

    public int rest() {
        if (!moor.isTold()) {
            return NO_SUCH;
        }
        plan.think(moor);
        return plan.restless();
    }

    public int rests(int n) {
        if (!moor.isTold() || n < 0 || n > MOST_RESTS) {
            return NO_SUCH;
        }
        plan.think(moor);
        return plan.settle(n);
    }

    public int sent(int drive, int n) {
        if (!moor.hasDrive(drive) || n < 0 || n > MOST_RESTS) {
            return NO_SUCH;
        }
        plan.think(moor);
        plan.settle(n);
        return plan.thought.drive[drive].whither();
    }

    public int harm(int drive) {
        if (!moor.hasDrive(drive)) {
            return NO_SUCH;
        }
        int owner = moor.drive[drive].owner;
        int with = walk.sumOfOthers(moor, owner);
        plan.think(moor);
        plan.thought.drive[drive].sheep = 0;
        plan.thought.drive[drive].lambs = 0;
        return with - walk.sumOfOthers(plan.thought, owner);
    }

    public int ewe(int owner, int gap, int day, int hour) {
        if (!moor.hasOwner(owner) || !moor.hasGap(gap) || !moor.hasDay(day) || !isHour(hour)) {
            return NO_SUCH;
        }
        plan.think(moor);
        plan.tellEwe(owner, gap, day);
        return plan.worthAt(hour);
    }

    public int waits(int owner, int gap, int day, int what) {
        if (!moor.hasOwner(owner) || !moor.hasGap(gap) || !moor.hasDay(day) || what < 0 || what > 1) {
            return NO_SUCH;
        }
        plan.think(moor);
        plan.tellEwe(owner, gap, day);
        int hour = 0;
        int most = plan.worthAt(0);
        for (int h = 1; h < HOURS; h++) {
            int worth = plan.worthAt(h);
            if (worth > most) {
                most = worth;
                hour = h;
            }
        }
        return what == 0 ? hour : most;
    }

    // ---- rings

    public int ring(int gap, int n, int r) {
        if (!isRing(gap, n) || r < 0 || r > MOST_ROUNDS) {
            return NO_SUCH;
        }
        walk.goThrough(moor);
        return walk.raise(moor.counterOf(gap), moor.law[EACH], n * r);
    }

    public int rounds(int gap, int n) {
        if (!isRing(gap, n)) {
            return NO_SUCH;
        }
        int first = walk.stillFree(moor, gap);
        int each = moor.law[EACH];
        for (int r = 1; r <= each; r++) {
            if (r * n >= first && (r * n - first) % each == 0) {
                return r;
            }
        }
        return NONE;
    }

    private boolean isRing(int gap, int n) {
        return moor.hasGap(gap) && n >= 1 && n <= MOST_RING;
    }

    // ---- orders that explain who paid

    public int orders(int slot, int gap, int day) {
        int refused = explain(slot, gap, day);
        return refused != 0 ? refused : explained.found;
    }

    public int order(int slot, int gap, int day, int i) {
        int refused = explain(slot, gap, day);
        if (refused != 0) {
            return refused;
        }
        if (explained.found == 0 || i < 0 || i >= explained.many) {
            return NONE;
        }
        return explained.first[i];
    }

    public int sure(int slot, int gap, int day, int drive) {
        if (!moor.hasDrive(drive)) {
            return NO_SUCH;
        }
        int refused = explain(slot, gap, day);
        return refused != 0 ? refused : explained.spot[drive];
    }

    private int explain(int slot, int gap, int day) {
        if (!Slots.isSlot(slot) || !moor.hasGap(gap) || !moor.hasDay(day)) {
            return NO_SUCH;
        }
        if (!slots.hasRow(slot)) {
            return HAS_NOTHING;
        }
        if (explained.gather(moor, gap, day) > MOST_IN_ORDERS) {
            return TOO_MANY;
        }
        if (!slots.isWithin(slot, moor.owners - 1)) {
            return NO_SUCH;
        }
        explained.search(moor, gap, day, slots, slot);
        return 0;
    }

    // ---- counts that are told

    public int wrong(int slot, int day) {
        int refused = askTold(slot, day);
        if (refused != 0) {
            return refused;
        }
        int wrong = 0;
        for (int gap = 0; gap < moor.gaps; gap++) {
            if (slots.numbers[slot][gap] != moor.beastsThrough(gap, day)) {
                wrong++;
            }
        }
        return wrong;
    }

    public int anew(int slot, int day) {
        int refused = askTold(slot, day);
        if (refused != 0) {
            return refused;
        }
        long over = 0;
        for (int gap = 0; gap < moor.gaps; gap++) {
            over += slots.numbers[slot][gap] - moor.beastsThrough(gap, day);
        }
        int k = 0;
        if (over != 0) {
            while (k < MOST_GAPS && (1 << k) < moor.gaps) {
                k++;
            }
        }
        return k;
    }

    private int askTold(int slot, int day) {
        if (!Slots.isSlot(slot) || !moor.hasDay(day)) {
            return NO_SUCH;
        }
        if (!slots.hasRow(slot)) {
            return HAS_NOTHING;
        }
        if (slots.size[slot] != moor.gaps) {
            return BEYOND;
        }
        return slots.isWithin(slot, MOST_TOLD) ? 0 : NO_SUCH;
    }

    // ---- flocks mixed, other laws

    public int mixed(int seed, int owner) {
        if (!moor.hasOwner(owner) || !isSeed(seed)) {
            return NO_SUCH;
        }
        return mix.sumOf(moor, seed, owner);
    }

    public int luck(int seed, int n, int owner) {
        if (!moor.hasOwner(owner) || !isSeed(seed) || n < 1 || n > MOST_LUCK) {
            return NO_SUCH;
        }
        int unmixed = walk.sumOf(moor, owner);
        int more = 0;
        for (int i = 0; i < n; i++) {
            if (mix.sumOf(moor, seed + i, owner) > unmixed) {
                more++;
            }
        }
        return more;
    }

    private static boolean isSeed(int seed) {
        return seed >= 0 && seed <= MOST_SEED;
    }

    public int free(int owner) {
        if (!moor.hasOwner(owner)) {
            return NO_SUCH;
        }
        plan.think(moor);
        for (int each = 2; each <= MOST_EACH; each++) {
            plan.thought.law[EACH] = each;
            if (walk.sumOf(plan.thought, owner) == 0) {
                return each;
            }
        }
        return NONE;
    }

    public int all(int what) {
        if (!moor.isTold() || what < 0 || what > 3) {
            return NO_SUCH;
        }
        plan.think(moor);
        plan.thought.law[CLEAR] = what % 2;
        plan.thought.law[BY_ALL] = what / 2;
        return walk.tally(plan.thought) * moor.law[DUE];
    }

    // ---- numbers of things, images, slots

    public int count(int what) {
        switch (what) {
            case 0: return moor.gaps;
            case 1: return moor.days;
            case 2: return moor.owners;
            case 3: return moor.drives;
            case 4: return moor.fogs;
            case 5: return moor.lines;
            case 6: return tape.length;
            case 7: return moor.lambsFrom;
            case 8: return slots.rows();
            default: return NONE;
        }
    }

    public int keep(int k) {
        if (k < 0 || k >= IMAGES) {
            return NO_SUCH;
        }
        images[k].copy(moor);
        kept[k] = true;
        return 0;
    }

    public int back(int k) {
        if (k < 0 || k >= IMAGES) {
            return NO_SUCH;
        }
        if (!kept[k]) {
            return HAS_NOTHING;
        }
        moor.copy(images[k]);
        return 0;
    }

    public int row(int slot, int width, int n) {
        if (!Slots.isSlot(slot) || width < 0 || width >= WIDTHS || n > MOST_NUMBERS) {
            return NO_SUCH;
        }
        if (n < 0) {
            return BELOW_NOTHING;
        }
        slots.lay(slot, width, n);
        return 0;
    }

    public int write(int slot, int i, long v) {
        if (!Slots.isSlot(slot)) {
            return NO_SUCH;
        }
        if (!slots.hasRow(slot)) {
            return HAS_NOTHING;
        }
        if (i < 0 || i >= slots.size[slot]) {
            return BEYOND;
        }
        slots.numbers[slot][i] = Slots.cut(v, slots.width[slot]);
        return 0;
    }

    public int paste(int slot, int i, int to, int k, int n) {
        if (!Slots.isSlot(slot) || !Slots.isSlot(to)) {
            return NO_SUCH;
        }
        if (!slots.hasRow(slot) || !slots.hasRow(to)) {
            return HAS_NOTHING;
        }
        if (slots.width[slot] != slots.width[to]) {
            return OTHER_WIDTH;
        }
        if (!slots.reaches(slot, i, n) || !slots.reaches(to, k, n)) {
            return BEYOND;
        }
        System.arraycopy(slots.numbers[slot], i, slots.numbers[to], k, n);
        return 0;
    }

    /** The bytes from which the next moor is read. */
    private static final class Tape {
        final byte[] bytes = new byte[MOST_BYTES];
        int length;

        void append(int four) {
            for (int shift = 24; shift >= 0 && length < MOST_BYTES; shift -= 8) {
                bytes[length] = (byte) (four >> shift);
                length++;
            }
        }
    }

    /** One drive as it is told; one that nobody painted has its owner as payer. */
    private static final class Drive {
        int owner;
        int gap;
        int day;
        int hour;
        int sheep;
        int lambs;
        int payer;
        int lame;

        void copy(Drive from) {
            owner = from.owner;
            gap = from.gap;
            day = from.day;
            hour = from.hour;
            sheep = from.sheep;
            lambs = from.lambs;
            payer = from.payer;
            lame = from.lame;
        }

        /** How many of it are counted if there is no fog. */
        int countable(boolean lambsToo) {
            return lambsToo ? sheep + lambs : sheep;
        }

        int whither() {
            return 100 * gap + hour;
        }
    }

    /** A moor with its laws; one without lines is none, and then has no gap, day, owner or drive. */
    private static final class Moor {
        int lines;
        int gaps;
        int days;
        int owners;
        int lambsFrom;
        int drives;
        int fogs;
        final int[] law = new int[LAWS];
        final int[] start = new int[MOST_GAPS];
        final int[] misses = new int[MOST_DAYS * MOST_GAPS];
        // one more than can be told: a split or a ewe is thought of as a drive told last
        final Drive[] drive = new Drive[MOST_DRIVES + 1];

        Moor() {
            for (int i = 0; i <= MOST_DRIVES; i++) {
                drive[i] = new Drive();
            }
        }

        void forget() {
            lines = 0;
            gaps = 0;
            days = 0;
            owners = 0;
            lambsFrom = 0;
            drives = 0;
            fogs = 0;
            Arrays.fill(law, 0);
            Arrays.fill(start, 0);
            Arrays.fill(misses, 0);
        }

        void copy(Moor from) {
            lines = from.lines;
            gaps = from.gaps;
            days = from.days;
            owners = from.owners;
            lambsFrom = from.lambsFrom;
            drives = from.drives;
            fogs = from.fogs;
            System.arraycopy(from.law, 0, law, 0, LAWS);
            System.arraycopy(from.start, 0, start, 0, MOST_GAPS);
            System.arraycopy(from.misses, 0, misses, 0, MOST_DAYS * MOST_GAPS);
            for (int i = 0; i < from.drives && i <= MOST_DRIVES; i++) {
                drive[i].copy(from.drive[i]);
            }
        }

        boolean isTold() {
            return lines > 0;
        }

        boolean hasGap(int gap) {
            return gap >= 0 && gap < gaps;
        }

        boolean hasDay(int day) {
            return day >= 0 && day < days;
        }

        boolean hasOwner(int owner) {
            return owner >= 0 && owner < owners;
        }

        boolean hasDrive(int number) {
            return number >= 0 && number < drives;
        }

        int counterOf(int gap) {
            return law[BY_ALL] == 1 ? 0 : gap;
        }

        int fogOf(int gap, int day) {
            return misses[day * MOST_GAPS + gap];
        }

        /** When a drive goes through, in hours from the first; NONE if never. */
        int passage(int number) {
            Drive d = drive[number];
            int time = HOURS * d.day + d.hour + d.lame;
            return time < HOURS * days ? time : NONE;
        }

        boolean goesBy(int number, int gap, int day) {
            int time = passage(number);
            return time != NONE && time / HOURS == day && drive[number].gap == gap;
        }

        boolean lambsCount(int day) {
            return law[PASS] == 0 && day >= lambsFrom;
        }

        int beastsThrough(int gap, int day) {
            int beasts = 0;
            for (int i = 0; i < drives; i++) {
                if (goesBy(i, gap, day)) {
                    beasts += drive[i].sheep + drive[i].lambs;
                }
            }
            return beasts;
        }

        int countedThrough(int gap, int day) {
            int counted = 0;
            for (int i = 0; i < drives; i++) {
                if (goesBy(i, gap, day)) {
                    counted += drive[i].countable(lambsCount(day));
                }
            }
            int fog = fogOf(gap, day);
            return fog > 0 ? counted - counted / fog : counted;
        }
    }

    /** Reads a tape into a moor. Behind its first fault it asks for nothing more. */
    private static final class Reader {
        private static final int END = 0;
        private static final int WORD = 1;
        private static final int NUMBER = 2;
        private static final int SIGN = 3;
        private static final int NO_TOKEN = 4;
        private static final int TOO_GREAT = 100000;

        int fault;
        int place = NONE;
        private final Tape tape;
        private final Moor into;
        private boolean ownersTold;
        private int kind;
        private int at;
        private int next;
        private int value;

        Reader(Tape tape, Moor into) {
            this.tape = tape;
            this.into = into;
        }

        void begin() {
            fault = 0;
            place = NONE;
            ownersTold = false;
            next = 0;
            into.forget();
            step();
        }

        boolean hasMore() {
            return fault == 0 && kind != END;
        }

        private void refuse(int which) {
            if (fault == 0) {
                fault = which;
                place = at;
            }
        }

        private static boolean isBlank(int sign) {
            return sign == ' ' || sign == '\n';
        }

        private static boolean isLetter(int sign) {
            return sign >= 'a' && sign <= 'z';
        }

        private static boolean isDigit(int sign) {
            return sign >= '0' && sign <= '9';
        }

        private void step() {
            byte[] bytes = tape.bytes;
            int length = Math.min(tape.length, MOST_BYTES);
            while (next < length && isBlank(bytes[next])) {
                next++;
            }
            at = next;
            if (at >= length) {
                kind = END;
            } else if (isLetter(bytes[at])) {
                kind = WORD;
                while (next < length && isLetter(bytes[next])) {
                    next++;
                }
            } else if (isDigit(bytes[at])) {
                kind = NUMBER;
                value = 0;
                while (next < length && isDigit(bytes[next])) {
                    // held at a bound above all that are told, lest it wraps around
                    value = Math.min(TOO_GREAT, 10 * value + bytes[next] - '0');
                    next++;
                }
            } else {
                kind = bytes[at] == ';' ? SIGN : NO_TOKEN;
                next++;
            }
        }

        private boolean sees(String word) {
            if (fault != 0 || kind != WORD || next - at != word.length()) {
                return false;
            }
            for (int i = 0; i < word.length(); i++) {
                if (tape.bytes[at + i] != word.charAt(i)) {
                    return false;
                }
            }
            return true;
        }

        private boolean tries(String word) {
            if (!sees(word)) {
                return false;
            }
            step();
            return true;
        }

        private void take(String word) {
            if (sees(word)) {
                step();
            } else {
                refuse(1);
            }
        }

        private void takeSign() {
            if (fault != 0) {
                return;
            }
            if (kind == SIGN) {
                step();
            } else {
                refuse(1);
            }
        }

        /** The number that stands here, or NONE behind a fault. */
        private int take(int least, int most) {
            if (fault == 0 && kind != NUMBER) {
                refuse(1);
            } else if (fault == 0 && (value < least || value > most)) {
                refuse(2);
            }
            if (fault != 0) {
                return NONE;
            }
            int taken = value;
            step();
            return taken;
        }

        private int takeNamed(String word, int least, int most) {
            take(word);
            return take(least, most);
        }

        void readLine() {
            if (into.lines == 0) {
                readMoor();
            } else if (tries("law")) {
                readLaw();
            } else if (sees("owners")) {
                readOwners();
            } else if (tries("start")) {
                readStart();
            } else if (tries("lambs")) {
                into.lambsFrom = takeNamed("from", 0, into.days - 1);
            } else if (sees("drive")) {
                readDrive();
            } else if (sees("fog")) {
                readFog();
            } else {
                refuse(1);
            }
            takeSign();
            into.lines++;
        }

        private void readMoor() {
            take("moor");
            into.gaps = takeNamed("gaps", 1, MOST_GAPS);
            into.days = takeNamed("days", 1, MOST_DAYS);
            into.law[EACH] = takeNamed("each", 2, MOST_EACH);
            into.law[DUE] = takeNamed("due", 0, MOST_DUE);
            into.owners = 1;
        }

        private void readLaw() {
            if (tries("gaps")) {
                into.law[BY_ALL] = 0;
            } else if (tries("all")) {
                into.law[BY_ALL] = 1;
            } else if (tries("keep")) {
                into.law[CLEAR] = 0;
            } else if (tries("clear")) {
                into.law[CLEAR] = 1;
            } else if (tries("count")) {
                into.law[PASS] = 0;
            } else if (tries("pass")) {
                into.law[PASS] = 1;
            } else {
                refuse(1);
            }
        }

        private void readOwners() {
            if (ownersTold || into.drives > 0) {
                refuse(2);
            }
            into.owners = takeNamed("owners", 1, MOST_OWNERS);
            ownersTold = true;
        }

        private void readStart() {
            int gap = take(0, into.gaps - 1);
            int n = takeNamed("is", 0, into.law[EACH] - 1);
            if (fault == 0) {
                into.start[gap] = n;
            }
        }

        private void readDrive() {
            if (into.drives >= MOST_DRIVES) {
                refuse(3);
                return;
            }
            Drive d = into.drive[into.drives];
            d.owner = takeNamed("drive", 0, into.owners - 1);
            d.gap = takeNamed("gap", 0, into.gaps - 1);
            d.day = takeNamed("on", 0, into.days - 1);
            d.hour = takeNamed("at", 0, HOURS - 1);
            d.sheep = takeNamed("sheep", 1, MOST_BEASTS);
            d.lambs = tries("lambs") ? take(0, MOST_BEASTS) : 0;
            d.payer = tries("painted") ? takePainter(d.owner) : d.owner;
            d.lame = tries("lame") ? 1 : 0;
            into.drives++;
        }

        private int takePainter(int owner) {
            if (kind == NUMBER && value == owner) {
                refuse(2);
            }
            return take(0, into.owners - 1);
        }

        private void readFog() {
            if (into.fogs >= MOST_FOGS) {
                refuse(3);
            }
            int gap = takeNamed("fog", 0, into.gaps - 1);
            int day = takeNamed("on", 0, into.days - 1);
            int each = takeNamed("misses", 2, 9);
            if (fault == 0) {
                into.misses[day * MOST_GAPS + gap] = each;
                into.fogs++;
            }
        }
    }

    /** Lets all drives of a moor go through and counts them, a drive at a time. */
    private static final class Walk {
        // a drive's key is its hour, gap and number, so that sorted keys are the order of going
        final int[] keys = new int[MOST_DRIVES + 1];
        int many;
        final int[] counter = new int[MOST_GAPS];
        final int[] seen = new int[MOST_GAPS];
        final int[] owed = new int[MOST_OWNERS];
        int today;
        int foundDrive;
        int foundPlace;

        static int keyOf(int time, int gap, int number) {
            return (time << 6) + (gap << 4) + number;
        }

        static int numberOf(int key) {
            return key & 15;
        }

        static int gapOf(int key) {
            return (key >> 4) & 3;
        }

        static int timeOf(int key) {
            return key >> 6;
        }

        /** Lines up all drives that go, and stands ahead of the first. */
        void begin(Moor m) {
            many = 0;
            for (int i = 0; i < m.drives && i <= MOST_DRIVES; i++) {
                int time = m.passage(i);
                if (time != NONE) {
                    lineUp(keyOf(time, m.drive[i].gap, i));
                }
            }
            Arrays.fill(seen, 0);
            Arrays.fill(owed, 0);
            for (int gap = 0; gap < MOST_GAPS; gap++) {
                counter[gap] = m.start[m.counterOf(gap)];
            }
            today = 0;
        }

        private void lineUp(int key) {
            int i = many;
            while (i > 0 && keys[i - 1] > key) {
                keys[i] = keys[i - 1];
                i--;
            }
            keys[i] = key;
            many++;
        }

        void dawn(Moor m, int day) {
            if (day <= today) {
                return;
            }
            today = day;
            Arrays.fill(seen, 0);
            if (m.law[CLEAR] == 1) {
                Arrays.fill(counter, 0);
            }
        }

        /** A drive goes through: how many of it are due. */
        int pass(Moor m, int key) {
            int gap = gapOf(key);
            int day = timeOf(key) / HOURS;
            dawn(m, day);
            int counted = m.drive[numberOf(key)].countable(m.lambsCount(day));
            int before = seen[gap];
            seen[gap] = before + counted;
            int fog = m.fogOf(gap, day);
            if (fog > 0) {
                counted -= (before + counted) / fog - before / fog;
            }
            return raise(m.counterOf(gap), m.law[EACH], counted);
        }

        /** So many are counted by a counter: how many of them are due. */
        int raise(int which, int each, int counted) {
            // a law that came later can have each below the counter: then the next is due
            int first = each > counter[which] ? each - counter[which] : 1;
            if (counted < first || each < 1) {
                counter[which] += counted;
                return 0;
            }
            counter[which] = (counted - first) % each;
            return 1 + (counted - first) / each;
        }

        /** One beast that is counted but for fog goes through: whether it is due. */
        boolean passOne(Moor m, int gap, int day) {
            seen[gap]++;
            int fog = m.fogOf(gap, day);
            if (fog > 0 && seen[gap] % fog == 0) {
                return false;
            }
            return raise(m.counterOf(gap), m.law[EACH], 1) > 0;
        }

        /** All go through: how many are due in all, and of each owner in owed. */
        int tally(Moor m) {
            begin(m);
            int total = 0;
            for (int i = 0; i < many; i++) {
                int due = pass(m, keys[i]);
                owed[m.drive[numberOf(keys[i])].payer] += due;
                total += due;
            }
            return total;
        }

        int sumOf(Moor m, int owner) {
            tally(m);
            return owed[owner] * m.law[DUE];
        }

        int sumOfOthers(Moor m, int owner) {
            int total = tally(m);
            return (total - owed[owner]) * m.law[DUE];
        }

        int duesOn(Moor m, int owner, int day) {
            begin(m);
            int dues = 0;
            for (int i = 0; i < many; i++) {
                int due = pass(m, keys[i]);
                boolean his = m.drive[numberOf(keys[i])].payer == owner;
                if (his && timeOf(keys[i]) / HOURS == day) {
                    dues += due;
                }
            }
            return dues;
        }

        void goUntil(Moor m, int time) {
            begin(m);
            for (int i = 0; i < many && timeOf(keys[i]) <= time; i++) {
                pass(m, keys[i]);
            }
            dawn(m, time / HOURS);
        }

        void goThrough(Moor m) {
            goUntil(m, HOURS * m.days - 1);
        }

        /** Stands where all that do not go by a gap on a day, but ahead of those, have gone. */
        void goAhead(Moor m, int gap, int day) {
            begin(m);
            for (int i = 0; i < many; i++) {
                int on = timeOf(keys[i]) / HOURS;
                if (on < day || on == day && gapOf(keys[i]) != gap) {
                    pass(m, keys[i]);
                }
            }
            dawn(m, day);
        }

        int stillFree(Moor m, int gap) {
            goThrough(m);
            return Math.max(1, m.law[EACH] - counter[m.counterOf(gap)]);
        }

        /** Finds a due by its number: its drive and its place in that. */
        boolean findDue(Moor m, int number) {
            begin(m);
            int rest = number;
            for (int i = 0; i < many; i++) {
                int gap = gapOf(keys[i]);
                int which = m.counterOf(gap);
                dawn(m, timeOf(keys[i]) / HOURS);
                int counterWas = counter[which];
                int seenWas = seen[gap];
                int due = pass(m, keys[i]);
                if (rest < due) {
                    counter[which] = counterWas;
                    seen[gap] = seenWas;
                    foundDrive = numberOf(keys[i]);
                    foundPlace = placeOf(m, keys[i], rest);
                    return true;
                }
                rest -= due;
            }
            return false;
        }

        private int placeOf(Moor m, int key, int which) {
            int day = timeOf(key) / HOURS;
            int beasts = m.drive[numberOf(key)].countable(m.lambsCount(day));
            int rest = which;
            for (int beast = 0; beast < beasts; beast++) {
                if (passOne(m, gapOf(key), day)) {
                    if (rest == 0) {
                        return beast;
                    }
                    rest--;
                }
            }
            return NONE;
        }
    }

    /** Thinks of drives that go otherwise than they are told. */
    private static final class Plan {
        final Moor thought = new Moor();
        final Walk walk;
        // how many others go in each hour
        final int[] others = new int[HOURS * MOST_DAYS];
        int least;
        int gap;
        int hour;
        int splitLeast;
        int splitStay;
        int splitGap;
        int splitHour;
        private int eweOwner;
        private int eweBefore;

        Plan(Walk walk) {
            this.walk = walk;
        }

        void think(Moor m) {
            thought.copy(m);
        }

        /** Finds the gap and hour of a drive by which its owner pays least, and leaves it where it was. */
        void seekBest(int number) {
            Drive d = thought.drive[number];
            int gapWas = d.gap;
            int hourWas = d.hour;
            countOthers(number);
            least = UNPAYABLE;
            // nobody pays less than nothing, so the first by which he pays nothing is best
            for (int g = 0; g < thought.gaps && least > 0; g++) {
                d.gap = g;
                for (int h = 0; h < HOURS && least > 0; h++) {
                    d.hour = h;
                    if (h > 0 && !differs(number)) {
                        continue;
                    }
                    walk.tally(thought);
                    int pay = walk.owed[d.owner] * thought.law[DUE];
                    if (pay < least) {
                        least = pay;
                        gap = g;
                        hour = h;
                    }
                }
            }
            d.gap = gapWas;
            d.hour = hourWas;
        }

        private void countOthers(int number) {
            Arrays.fill(others, 0);
            for (int i = 0; i < thought.drives; i++) {
                int time = thought.passage(i);
                if (i != number && time != NONE) {
                    others[time]++;
                }
            }
        }

        /** An hour later only matters if another drive is met or left by it, or a night comes between. */
        private boolean differs(int number) {
            int time = thought.passage(number);
            return time < 1 || time % HOURS == 0 || others[time] > 0 || others[time - 1] > 0;
        }

        void seekSplit(int number) {
            Drive stays = thought.drive[number];
            int last = thought.drives;
            int sheep = stays.sheep;
            thought.drive[last].copy(stays);
            thought.drives = last + 1;
            stays.lambs = 0;
            splitLeast = UNPAYABLE;
            for (int stay = 1; stay < sheep && splitLeast > 0; stay++) {
                stays.sheep = stay;
                thought.drive[last].sheep = sheep - stay;
                seekBest(last);
                if (least < splitLeast) {
                    splitLeast = least;
                    splitStay = stay;
                    splitGap = gap;
                    splitHour = hour;
                }
            }
        }

        /** The first drive that would better go elsewhere; what is best for it is found then. */
        int restless() {
            for (int i = 0; i < thought.drives; i++) {
                int now = walk.sumOf(thought, thought.drive[i].owner);
                if (now > 0) {
                    seekBest(i);
                    if (least < now) {
                        return i;
                    }
                }
            }
            return NONE;
        }

        /** At most n drives go elsewhere: how many till all rest, NONE if they do not. */
        int settle(int n) {
            for (int times = 0; times <= n; times++) {
                int number = restless();
                if (number == NONE) {
                    return times;
                }
                if (times < n) {
                    thought.drive[number].gap = gap;
                    thought.drive[number].hour = hour;
                }
            }
            return NONE;
        }

        void tellEwe(int owner, int gapOfEwe, int day) {
            eweOwner = owner;
            eweBefore = walk.sumOfOthers(thought, owner);
            Drive ewe = thought.drive[thought.drives];
            ewe.owner = owner;
            ewe.payer = owner;
            ewe.gap = gapOfEwe;
            ewe.day = day;
            ewe.sheep = 1;
            ewe.lambs = 0;
            ewe.lame = 0;
            thought.drives++;
        }

        int worthAt(int hourOfEwe) {
            thought.drive[thought.drives - 1].hour = hourOfEwe;
            return walk.sumOfOthers(thought, eweOwner) - eweBefore;
        }
    }

    /** Seeks the orders of drives by a gap on a day that explain who paid there. */
    private static final class Orders {
        final Walk walk;
        final int[] line = new int[MOST_IN_ORDERS];
        final int[] first = new int[MOST_IN_ORDERS];
        final int[] spot = new int[MOST_DRIVES];
        int many;
        int found;

        Orders(Walk walk) {
            this.walk = walk;
        }

        /** Lines up those that go by a gap on a day, the least first: how many there are. */
        int gather(Moor m, int gap, int day) {
            many = 0;
            int all = 0;
            for (int i = 0; i < m.drives; i++) {
                if (m.goesBy(i, gap, day)) {
                    if (many < MOST_IN_ORDERS) {
                        line[many] = i;
                        many++;
                    }
                    all++;
                }
            }
            return all;
        }

        void search(Moor m, int gap, int day, Slots slots, int slot) {
            found = 0;
            Arrays.fill(spot, NONE);
            walk.goAhead(m, gap, day);
            int which = m.counterOf(gap);
            int ahead = walk.counter[which];
            boolean more = true;
            for (int i = 0; i < MOST_ORDERS && more; i++) {
                walk.counter[which] = ahead;
                walk.seen[gap] = 0;
                if (explains(m, day, slots, slot)) {
                    note();
                }
                more = permute();
            }
        }

        private boolean explains(Moor m, int day, Slots slots, int slot) {
            int told = slots.size[slot];
            int at = 0;
            for (int i = 0; i < many; i++) {
                Drive d = m.drive[line[i]];
                int due = walk.pass(m, Walk.keyOf(day * HOURS, d.gap, line[i]));
                if (due > told - at) {
                    return false;
                }
                for (int j = 0; j < due; j++) {
                    if (slots.numbers[slot][at + j] != d.payer) {
                        return false;
                    }
                }
                at += due;
            }
            return at == told;
        }

        private void note() {
            for (int i = 0; i < many; i++) {
                if (found == 0) {
                    first[i] = line[i];
                    spot[line[i]] = i;
                } else if (spot[line[i]] != i) {
                    spot[line[i]] = NONE;
                }
            }
            found++;
        }

        /** The next order by its numbers, the least first; false behind the last. */
        private boolean permute() {
            int i = many - 2;
            while (i >= 0 && line[i] > line[i + 1]) {
                i--;
            }
            if (i < 0) {
                return false;
            }
            int j = many - 1;
            while (j > i && line[j] < line[i]) {
                j--;
            }
            change(i, j);
            int low = i + 1;
            int high = many - 1;
            while (low < high) {
                change(low, high);
                low++;
                high--;
            }
            return true;
        }

        private void change(int i, int j) {
            int was = line[i];
            line[i] = line[j];
            line[j] = was;
        }
    }

    /** Lets the beasts that go by one gap in one hour go mixed by draws. */
    private static final class Mix {
        private static final int LAMB = 16;

        final Walk walk;
        // the number of each beast's drive, and LAMB more if it is a lamb
        final byte[] beasts = new byte[2 * MOST_BEASTS * MOST_DRIVES];
        int many;
        private long x;

        Mix(Walk walk) {
            this.walk = walk;
        }

        int sumOf(Moor m, int seed, int owner) {
            x = seed;
            walk.begin(m);
            many = 0;
            int dues = 0;
            for (int i = 0; i < walk.many; i++) {
                int key = walk.keys[i];
                addDrive(m.drive[Walk.numberOf(key)], Walk.numberOf(key));
                if (i + 1 == walk.many || walk.keys[i + 1] >> 4 != key >> 4) {
                    shuffle();
                    dues += passAll(m, key, owner);
                    many = 0;
                }
            }
            return dues * m.law[DUE];
        }

        private void addDrive(Drive d, int number) {
            add((byte) number, d.sheep);
            add((byte) (number + LAMB), d.lambs);
        }

        private void add(byte beast, int n) {
            for (int i = 0; i < n && many < beasts.length; i++) {
                beasts[many] = beast;
                many++;
            }
        }

        private int draw(int n) {
            x = (1103515245L * x + 12345L) % 2147483648L;
            return n > 0 ? (int) (x / 65536L % n) : 0;
        }

        private void shuffle() {
            for (int i = many - 1; i >= 1; i--) {
                int j = draw(i + 1);
                byte was = beasts[i];
                beasts[i] = beasts[j];
                beasts[j] = was;
            }
        }

        private int passAll(Moor m, int key, int owner) {
            int day = Walk.timeOf(key) / HOURS;
            walk.dawn(m, day);
            int dues = 0;
            for (int i = 0; i < many; i++) {
                boolean counts = beasts[i] < LAMB || m.lambsCount(day);
                if (counts && walk.passOne(m, Walk.gapOf(key), day)
                        && m.drive[beasts[i] % LAMB].payer == owner) {
                    dues++;
                }
            }
            return dues;
        }
    }

    /** Four rows of numbers, each cut to the width of its row. */
    private static final class Slots {
        final long[][] numbers = new long[SLOTS][MOST_NUMBERS];
        final int[] width = new int[SLOTS];
        final int[] size = new int[SLOTS];

        Slots() {
            Arrays.fill(size, NONE);
        }

        static boolean isSlot(int slot) {
            return slot >= 0 && slot < SLOTS;
        }

        static long cut(long v, int width) {
            switch (width) {
                case 0: return (byte) v;
                case 1: return (short) v;
                case 2: return (int) v;
                default: return v;
            }
        }

        boolean hasRow(int slot) {
            return size[slot] != NONE;
        }

        int rows() {
            int rows = 0;
            for (int slot = 0; slot < SLOTS; slot++) {
                if (hasRow(slot)) {
                    rows++;
                }
            }
            return rows;
        }

        void lay(int slot, int ofWidth, int n) {
            Arrays.fill(numbers[slot], 0L);
            width[slot] = ofWidth;
            size[slot] = n;
        }

        boolean isWithin(int slot, int most) {
            for (int i = 0; i < size[slot]; i++) {
                if (numbers[slot][i] < 0 || numbers[slot][i] > most) {
                    return false;
                }
            }
            return true;
        }

        boolean reaches(int slot, int from, int n) {
            return from >= 0 && n >= 0 && from <= size[slot] - n;
        }
    }
}
