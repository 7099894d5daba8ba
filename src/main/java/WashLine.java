import java.util.Arrays;

/** A washing line that is read as signals; ../shared/DOC.md says what each call must do. */
public final class WashLine {
    public static final int NONE = -1;

    private static final int BAD_NUMBER = -1;
    private static final int NO_SUCH = -2;
    private static final int CANNOT = -3;
    private static final int NO_ROOM = -5;
    private static final int BAD_TEXT = -6;

    private static final int MOST_SIGNS = 8;
    private static final int MOST_LONG = 4;
    private static final int MOST_SHIPS = 3;
    private static final int MOST_CLOTHS = 12;
    private static final int MOST_DONE = 6;
    private static final int MOST_LAWS = 6;
    private static final int MOST_ACTS = 16;
    private static final int MOST_BYTES = 400;
    private static final int MOST_CLAUSES = 12;
    private static final int MOST_ROW = 20;
    private static final int IMAGES = 2;

    private static final int AHEAD = 0;
    private static final int LEFT = 1;
    private static final int RIGHT = 2;
    private static final int ABOUT = 3;
    private static final int FIRE = 4;
    private static final int ORDERS = 6;

    private static final int DAY = 0;
    private static final int DRY = 1;
    private static final int MOOD = 2;
    private static final int TERMS = 3;
    private static final int LAST_DAY = 999;

    private static final int CELLS = 25;
    private static final int WAYS = 4;
    private static final int POWDERS = 10;

    /** Kinds of acts, as undo() tells them and as the second language lists them. */
    private static final int HANG = 0;
    private static final int TAKE = 1;
    private static final int SAIL = 2;
    private static final int PASS = 3;

    /** Kinds of clauses of a law, as the first language lists them. */
    private static final int WEIGHS = 0;
    private static final int GOES = 1;
    private static final int BARS = 2;

    /** Above every price that can be paid, and low enough that two of them can be added. */
    private static final int FAR = 1000000;

    /** Beyond what any sum may be: it stands for a broken one and for a law that tells nothing. */
    private static final long BROKEN = -4000000000000000000L;

    private static final long WHOLE = 1000000000000L;

    private final State now = new State();
    /** What stood ahead of the orders that are run, in case one of them can't be. */
    private final State before = new State();
    /** What stands behind the latest months; without ships ahead of any. */
    private final State paper = new State();
    private final State[] images = new State[IMAGES];
    private final boolean[] kept = new boolean[IMAGES];
    private final int[] tape = new int[MOST_BYTES];
    private int bytes;
    private final Reader reader = new Reader();
    private final Machine machine = new Machine();
    /** What the words of the second language tell, in the order of Reader.SECOND_WORDS. */
    private final int[] words = new int[Reader.CELL_OF + 2 * MOST_SHIPS];
    private final Captain captain = new Captain();
    private final Course course = new Course();
    private final Codebook codebook = new Codebook();
    private final long[] sums = new long[MOST_ROW + 1];
    private int faultPlace = NONE;
    private int soapTimes;
    private int stoppedAt = NONE;
    /** How many calls were refused, by the number of the refusal without its sign. */
    private final int[] refusals = new int[1 - BAD_TEXT];
    private int refusedBy;

    public WashLine() {
        for (int k = 0; k < IMAGES; k++) {
            images[k] = new State();
        }
    }

    public int sign(int cloths, int means) {
        if (cloths < 1 || cloths > 4444 || cloths % 10 == 0) {
            return refused(BAD_NUMBER);
        }
        int number = cloths;
        for (int k = 1; k < MOST_LONG && number < 1000; k++) {
            number *= 10;
        }
        int row = number / 1000 << 24 | number / 100 % 10 << 16 | number / 10 % 10 << 8 | number % 10;
        return settled(now.enter(means, row));
    }

    public int at(int sign, int what) {
        if (sign < 0 || sign >= now.signs || what < 0 || what > 1 + MOST_LONG) {
            return NONE;
        }
        int size = now.longOf[sign];
        if (what == 0) {
            return size;
        }
        if (what == 1) {
            return now.meansOf[sign];
        }
        int behind = size - 1 - (what - 2);
        return behind < 0 ? NONE : now.rowOf[sign] >> 2 * behind & 3;
    }

    public int ship(int cell, int faces, int powder) {
        if (!within(cell, CELLS) || !within(faces, WAYS) || !within(powder, POWDERS)) {
            return refused(BAD_NUMBER);
        }
        if (now.ships >= MOST_SHIPS) {
            return refused(NO_ROOM);
        }
        now.spotOf[now.ships] = (cell * WAYS + faces) * POWDERS + powder;
        now.ships++;
        now.acts = 0;
        return accepted(now.ships - 1);
    }

    public int of(int ship, int what) {
        return within(ship, now.ships) ? detail(now.spotOf[ship], what) : NONE;
    }

    public int asks(int ship, int k, int what) {
        if (!within(ship, now.ships)) {
            return NONE;
        }
        captain.board(now, ship, now.lawInForce());
        if (what == 0) {
            return within(k, now.signs) ? captain.weighs(now, k) : NONE;
        }
        if (what == 1) {
            return captain.goes();
        }
        if (what == 2 && within(k, ORDERS)) {
            return captain.barred(k) ? 1 : 0;
        }
        return NONE;
    }

    public int line(int k) {
        return within(k, now.hung) ? now.cloths >> 2 * (now.hung - 1 - k) & 3 : NONE;
    }

    public int terms(int what, int value) {
        if (!within(what, TERMS)) {
            return refused(BAD_NUMBER);
        }
        int most = what == DAY ? LAST_DAY : what == DRY ? 10 : 9;
        if (value < 0 || value > most) {
            return refused(BAD_NUMBER);
        }
        int was = now.termOf[what];
        now.termOf[what] = value;
        now.acts = 0;
        return accepted(was);
    }

    public int feed(int a, int b, int c, int d, int e) {
        if (bytes + 20 > MOST_BYTES) {
            return NONE;
        }
        append(a);
        append(b);
        append(c);
        append(d);
        append(e);
        return bytes;
    }

    public int end(int n) {
        if (n < 0 || n > bytes) {
            return NONE;
        }
        bytes = n;
        return n;
    }

    public int row() {
        if (bytes == 0) {
            return refused(BAD_TEXT);
        }
        int came = 0;
        soapTimes = 0;
        for (int i = 0; i < bytes; i += 5) {
            int entered = BAD_TEXT;
            if (i + 5 <= bytes) {
                int row = tape[i + 1] << 24 | tape[i + 2] << 16 | tape[i + 3] << 8 | tape[i + 4];
                entered = now.enter(tape[i], row);
            }
            if (entered < 0) {
                soapTimes++;
            } else {
                came++;
            }
        }
        bytes = 0;
        return accepted(came);
    }

    public int soap() {
        return soapTimes;
    }

    public int law() {
        int length = bytes;
        bytes = 0;
        if (now.laws >= MOST_LAWS) {
            return refused(NO_ROOM);
        }
        boolean fine = reader.parse(tape, length, false);
        faultPlace = reader.faultAt;
        if (!fine) {
            return refused(BAD_TEXT);
        }
        now.lawOf[now.laws] = reader.draft.trimmed();
        now.laws++;
        return accepted(now.laws - 1);
    }

    public int orders() {
        int length = bytes;
        bytes = 0;
        stoppedAt = NONE;
        boolean fine = reader.parse(tape, length, true);
        faultPlace = reader.faultAt;
        if (!fine) {
            return refused(BAD_TEXT);
        }
        before.copy(now);
        Text text = reader.draft;
        int ran = 0;
        int latest = NONE;
        for (int c = 0; c < text.clauses; c++) {
            int kind = text.head(c, Text.KIND);
            int times = text.head(c, Text.TIMES);
            for (int t = 0; t < times; t++) {
                look(ran, latest);
                if (machine.value(text, c, Text.TEST, words) != 1) {
                    continue;
                }
                long sum = machine.value(text, c, Text.SUM, words);
                int told = kind == HANG ? hangs(sum) : kind == TAKE ? takes() : kind == SAIL ? sails(sum) : passes();
                if (told < 0) {
                    now.copy(before);
                    stoppedAt = c;
                    return refused(CANNOT);
                }
                ran++;
                latest = kind == SAIL ? told : latest;
            }
        }
        return accepted(ran);
    }

    public int fault() {
        return faultPlace;
    }

    public int stopped() {
        return stoppedAt;
    }

    public int force(int law) {
        if (law < NONE || law >= now.laws) {
            return refused(NO_SUCH);
        }
        int was = now.inForce;
        now.inForce = law;
        return accepted(was);
    }

    public int hang(int cloth) {
        return settled(hangs(cloth));
    }

    public int take() {
        return settled(takes());
    }

    public int sail(int ship) {
        return settled(sails(ship));
    }

    public int pass() {
        return settled(passes());
    }

    public int undo() {
        return settled(now.unwind());
    }

    public int readings() {
        return captain.fitting(now, 0);
    }

    public int reads(int ship, int i) {
        if (!within(ship, now.ships) || !captain.choose(now, ship, now.lawInForce())) {
            return NONE;
        }
        return captain.told(captain.length, i);
    }

    public int where(int ship, int what) {
        if (!within(ship, now.ships) || !captain.choose(now, ship, now.lawInForce())) {
            return NONE;
        }
        captain.follow(now);
        return detail(captain.spot, what);
    }

    public int meetings(int i) {
        int twos = 0;
        for (int a = 0; a < now.ships; a++) {
            for (int b = a + 1; b < now.ships; b++) {
                int cell = where(a, 0);
                if (cell != NONE && cell == where(b, 0)) {
                    if (twos == i) {
                        return 10 * a + b;
                    }
                    twos++;
                }
            }
        }
        return i == NONE ? twos : NONE;
    }

    public int plan(int ship, int cell, int i) {
        if (!within(ship, now.ships) || !within(cell, CELLS) || i < NONE) {
            return NONE;
        }
        captain.board(now, ship, now.lawInForce());
        int start = now.spotOf[ship];
        int fewest = course.search(now, captain, start, cell);
        return fewest == NONE || i == NONE ? fewest : course.signAt(now, start, i);
    }

    public int mended(int i) {
        return captain.pick(now, true) ? captain.told(captain.price, i) : NONE;
    }

    public int twofold() {
        int fewest = codebook.fewest(now, (1 << now.signs) - 1);
        return fewest < FAR ? fewest : NONE;
    }

    public int struck(int what) {
        if (what != 0 && what != 1) {
            return NONE;
        }
        int all = (1 << now.signs) - 1;
        for (int many = 0; many <= now.signs; many++) {
            for (int bits = 0; bits <= all; bits++) {
                if (Integer.bitCount(bits) == many && codebook.fewest(now, all & ~bits) >= FAR) {
                    return what == 0 ? many : bits;
                }
            }
        }
        return NONE;
    }

    public long rows(int n) {
        if (n < 0 || n > MOST_ROW) {
            return NONE;
        }
        sums[0] = 1;
        for (int m = 1; m <= n; m++) {
            sums[m] = 0;
            for (int sign = 0; sign < now.signs; sign++) {
                int rest = m - now.longOf[sign];
                sums[m] += rest < 0 ? 0 : sums[rest];
            }
        }
        return sums[n];
    }

    public int seen(int means) {
        if (!within(means, ORDERS)) {
            return refused(BAD_NUMBER);
        }
        if (now.done >= MOST_DONE) {
            return refused(NO_ROOM);
        }
        now.doneOf[now.done] = means;
        now.done++;
        return accepted(now.done);
    }

    public int forget() {
        int was = now.done;
        now.done = 0;
        return was;
    }

    public int fits() {
        return captain.fitting(now, now.done);
    }

    public long few(int k, int n) {
        if (k < 1 || k > 20 || n < 0 || n > 99) {
            return NONE;
        }
        int dry = now.termOf[DRY];
        Arrays.fill(sums, 0);
        sums[0] = WHOLE;
        for (int cloth = 0; cloth < n; cloth++) {
            for (int dried = k - 1; dried > 0; dried--) {
                sums[dried] = sums[dried] * (10 - dry) / 10 + sums[dried - 1] * dry / 10;
            }
            sums[0] = sums[0] * (10 - dry) / 10;
        }
        long chance = 0;
        for (int dried = 0; dried < k; dried++) {
            chance += sums[dried];
        }
        return chance;
    }

    public int compare(int law, int ship) {
        if (law < NONE || law >= now.laws || !within(ship, now.ships)) {
            return NONE;
        }
        Text other = law == NONE ? null : now.lawOf[law];
        return captain.choose(now, ship, other) ? captain.price : NONE;
    }

    public int months(int seed, int n) {
        if (seed < 0 || seed > 1000000 || n < 1 || n > 60) {
            return refused(BAD_NUMBER);
        }
        if (now.ships == 0) {
            return refused(CANNOT);
        }
        paper.copy(now);
        int s = seed;
        int sailed = 0;
        for (int t = 0; t < n && paper.termOf[DAY] < LAST_DAY; t++) {
            s = nextDraw(s);
            if (paper.hung < MOST_CLOTHS) {
                paper.add(s % 4);
            }
            s = nextDraw(s);
            int ship = s % now.ships;
            boolean readable = captain.choose(paper, ship, paper.lawInForce());
            if (readable) {
                captain.follow(paper);
                paper.spotOf[ship] = captain.spot;
                sailed++;
            }
            if (readable || paper.hung >= MOST_CLOTHS) {
                paper.hung = 0;
                paper.cloths = 0;
            }
            paper.termOf[DAY]++;
        }
        return accepted(sailed);
    }

    public int drawn(int ship, int what) {
        return within(ship, paper.ships) ? detail(paper.spotOf[ship], what) : NONE;
    }

    public int image(int k) {
        if (!within(k, IMAGES)) {
            return refused(BAD_NUMBER);
        }
        images[k].copy(now);
        kept[k] = true;
        return accepted(0);
    }

    public int back(int k) {
        if (!within(k, IMAGES)) {
            return refused(BAD_NUMBER);
        }
        if (!kept[k]) {
            return refused(NO_SUCH);
        }
        now.copy(images[k]);
        now.acts = 0;
        return accepted(0);
    }

    public int count(int what) {
        switch (what) {
            case 0: return now.signs;
            case 1: return now.ships;
            case 2: return now.hung;
            case 3: return now.done;
            case 4: return now.laws;
            case 5: return now.acts;
            case 6: return bytes;
            case 7: return refusals[-BAD_NUMBER];
            case 8: return refusals[-NO_SUCH];
            case 9: return refusals[-CANNOT];
            case 10: return refusals[-NO_ROOM];
            case 11: return refusals[-BAD_TEXT];
            case 12: return now.inForce;
            case 13: return now.termOf[DAY];
            case 14: return now.termOf[DRY];
            case 15: return now.termOf[MOOD];
            default: return NONE;
        }
    }

    public int status() {
        return refusedBy;
    }

    private static boolean within(int number, int bound) {
        return number >= 0 && number < bound;
    }

    private int accepted(int answer) {
        refusedBy = 0;
        return answer;
    }

    private int refused(int by) {
        refusedBy = by;
        int k = -by;
        if (within(k, refusals.length)) {
            refusals[k]++;
        }
        return by;
    }

    /** For calls none of whose good answers is below 0. */
    private int settled(int answer) {
        return answer < 0 ? refused(answer) : accepted(answer);
    }

    private void append(int four) {
        for (int shift = 24; shift >= 0 && bytes < MOST_BYTES; shift -= 8) {
            tape[bytes] = four >> shift & 255;
            bytes++;
        }
    }

    private void look(int ran, int latest) {
        words[0] = now.termOf[DAY];
        words[1] = ran;
        words[2] = latest;
        words[3] = now.hung;
        words[4] = captain.fitting(now, 0);
        for (int ship = 0; ship < MOST_SHIPS; ship++) {
            boolean there = ship < now.ships;
            words[Reader.CELL_OF + ship] = there ? cellOf(now.spotOf[ship]) : NONE;
            words[Reader.CELL_OF + MOST_SHIPS + ship] = there ? powderOf(now.spotOf[ship]) : NONE;
        }
    }

    private int hangs(long cloth) {
        if (cloth < 0 || cloth > 3) {
            return BAD_NUMBER;
        }
        if (now.hung >= MOST_CLOTHS) {
            return CANNOT;
        }
        now.add((int) cloth);
        now.remember(HANG);
        return now.hung;
    }

    private int takes() {
        if (now.hung == 0) {
            return CANNOT;
        }
        int cloth = now.cloths & 3;
        now.dropLast();
        now.remember(TAKE | cloth << 2);
        return cloth;
    }

    private int sails(long which) {
        if (which < 0 || which >= now.ships) {
            return NO_SUCH;
        }
        int ship = (int) which;
        if (!captain.choose(now, ship, now.lawInForce())) {
            return CANNOT;
        }
        now.remember(SAIL | ship << 2 | now.spotOf[ship] << 4);
        captain.follow(now);
        now.spotOf[ship] = captain.spot;
        return captain.length;
    }

    private int passes() {
        if (now.termOf[DAY] >= LAST_DAY) {
            return CANNOT;
        }
        now.termOf[DAY]++;
        now.remember(PASS);
        return now.termOf[DAY];
    }

    private static int nextDraw(int s) {
        return (int) ((s * 1103L + 12345) % 1000003);
    }

    /** A spot is a ship's cell, way and powder in one number. */
    private static int cellOf(int spot) {
        return spot / (WAYS * POWDERS);
    }

    private static int facesOf(int spot) {
        return spot / POWDERS % WAYS;
    }

    private static int powderOf(int spot) {
        return spot % POWDERS;
    }

    private static int detail(int spot, int what) {
        switch (what) {
            case 0: return cellOf(spot);
            case 1: return facesOf(spot);
            case 2: return powderOf(spot);
            default: return NONE;
        }
    }

    /** Where an order that is not barred brings a ship which goes so many cells ahead. */
    private static int behind(int spot, int order, int goes) {
        int faces = facesOf(spot);
        switch (order) {
            case AHEAD: return spot + (ahead(cellOf(spot), faces, goes) - cellOf(spot)) * WAYS * POWDERS;
            case LEFT: return spot + ((faces + 3) % WAYS - faces) * POWDERS;
            case RIGHT: return spot + ((faces + 1) % WAYS - faces) * POWDERS;
            case ABOUT: return spot + ((faces + 2) % WAYS - faces) * POWDERS;
            case FIRE: return powderOf(spot) > 0 ? spot - 1 : spot;
            default: return spot;
        }
    }

    private static int ahead(int cell, int faces, int goes) {
        int x = cell % 5;
        int y = cell / 5;
        switch (faces) {
            case 0: return cell + 5 * Math.min(goes, 4 - y);
            case 1: return cell + Math.min(goes, 4 - x);
            case 2: return cell - 5 * Math.min(goes, y);
            default: return cell - Math.min(goes, x);
        }
    }

    /** All that an image keeps, and what can be undone. */
    private static final class State {
        int signs;
        /** A sign's cloths as digits to the base 4, the first one the highest. */
        final int[] rowOf = new int[MOST_SIGNS];
        final int[] longOf = new int[MOST_SIGNS];
        final int[] meansOf = new int[MOST_SIGNS];
        int ships;
        final int[] spotOf = new int[MOST_SHIPS];
        int hung;
        /** The line's cloths as digits to the base 4, the first one the highest. */
        int cloths;
        int done;
        final int[] doneOf = new int[MOST_DONE];
        int laws;
        final Text[] lawOf = new Text[MOST_LAWS];
        int inForce = NONE;
        final int[] termOf = new int[TERMS];
        int acts;
        /** Of each act its kind in two bits, and above them what it takes to undo it. */
        final int[] actOf = new int[MOST_ACTS];

        State() {
            termOf[DRY] = 5;
        }

        void copy(State from) {
            signs = from.signs;
            ships = from.ships;
            hung = from.hung;
            cloths = from.cloths;
            done = from.done;
            laws = from.laws;
            inForce = from.inForce;
            acts = from.acts;
            System.arraycopy(from.rowOf, 0, rowOf, 0, MOST_SIGNS);
            System.arraycopy(from.longOf, 0, longOf, 0, MOST_SIGNS);
            System.arraycopy(from.meansOf, 0, meansOf, 0, MOST_SIGNS);
            System.arraycopy(from.spotOf, 0, spotOf, 0, MOST_SHIPS);
            System.arraycopy(from.doneOf, 0, doneOf, 0, MOST_DONE);
            System.arraycopy(from.termOf, 0, termOf, 0, TERMS);
            System.arraycopy(from.actOf, 0, actOf, 0, MOST_ACTS);
            for (int k = 0; k < MOST_LAWS; k++) {
                lawOf[k] = from.lawOf[k];
            }
        }

        Text lawInForce() {
            return within(inForce, laws) ? lawOf[inForce] : null;
        }

        /**
         * Takes a sign in: its number, or what it is refused by. The row is four bytes, each 1 more
         * than its cloth, the first one the highest, and 0s behind the last one.
         */
        int enter(int means, int row) {
            int size = 0;
            int code = 0;
            for (int k = 0; k < MOST_LONG; k++) {
                int digit = row >> 24 - 8 * k & 255;
                if (digit > 4 || digit > 0 && size < k) {
                    return BAD_NUMBER;
                }
                if (digit > 0) {
                    code = 4 * code + digit - 1;
                    size++;
                }
            }
            if (size == 0 || !within(means, ORDERS)) {
                return BAD_NUMBER;
            }
            for (int sign = 0; sign < signs; sign++) {
                if (longOf[sign] == size && rowOf[sign] == code) {
                    return CANNOT;
                }
            }
            if (signs >= MOST_SIGNS) {
                return NO_ROOM;
            }
            rowOf[signs] = code;
            longOf[signs] = size;
            meansOf[signs] = means;
            signs++;
            return signs - 1;
        }

        /** How many cloths of the line, from one of them on, are other ones than the sign's. */
        int others(int sign, int from) {
            int behind = hung - from - longOf[sign];
            if (behind < 0) {
                return FAR;
            }
            int apart = (cloths >> 2 * behind & (1 << 2 * longOf[sign]) - 1) ^ rowOf[sign];
            return Integer.bitCount((apart | apart >> 1) & 0x55);
        }

        void add(int cloth) {
            cloths = cloths << 2 | cloth;
            hung++;
        }

        void dropLast() {
            cloths >>= 2;
            hung--;
        }

        void remember(int act) {
            if (acts >= MOST_ACTS) {
                System.arraycopy(actOf, 1, actOf, 0, MOST_ACTS - 1);
                acts = MOST_ACTS - 1;
            }
            actOf[acts] = act;
            acts++;
        }

        /** Undoes the latest act: its kind, or what that is refused by. */
        int unwind() {
            if (acts <= 0) {
                return CANNOT;
            }
            acts--;
            int kind = actOf[acts] & 3;
            int value = actOf[acts] >> 2;
            switch (kind) {
                case HANG:
                    dropLast();
                    break;
                case TAKE:
                    add(value);
                    break;
                case SAIL:
                    if (within(value & 3, ships)) {
                        spotOf[value & 3] = value >> 2;
                    }
                    break;
                default:
                    termOf[DAY]--;
            }
            return kind;
        }
    }

    /** A text of either language as it is run: clauses, and the code of their sums and tests. */
    private static final class Text {
        /** What stands of each clause; the code of its sum ends where that of its test begins. */
        static final int KIND = 0;
        static final int TIMES = 1;
        static final int SUM = 2;
        static final int TEST = 3;
        private static final int TEST_END = 4;
        static final int NUMBERS = 5;

        int clauses;
        int size;
        final int[] code;
        private final int[] heads;

        Text(int[] heads, int clauses, int[] code, int size) {
            this.heads = heads;
            this.clauses = clauses;
            this.code = code;
            this.size = size;
        }

        /** A copy that stays as it is, whatever is read into this one later. */
        Text trimmed() {
            int[] ownHeads = Arrays.copyOf(heads, Math.max(0, clauses) * NUMBERS);
            return new Text(ownHeads, clauses, Arrays.copyOf(code, Math.max(0, size)), size);
        }

        /** Closes the clause whose code ends here. */
        void close(int kind, int times, int sumFrom, int testFrom) {
            int at = clauses * NUMBERS;
            if (at >= 0 && at + NUMBERS <= heads.length) {
                heads[at + KIND] = kind;
                heads[at + TIMES] = times;
                heads[at + SUM] = sumFrom;
                heads[at + TEST] = testFrom;
                heads[at + TEST_END] = size;
                clauses++;
            }
        }

        int head(int clause, int what) {
            int at = clause * NUMBERS + what;
            return at >= 0 && at < heads.length ? heads[at] : 0;
        }
    }

    /** Runs the code of sums and tests: an operation in the bits from 12 on, a number below them. */
    private static final class Machine {
        static final int SHIFT = 12;
        static final int PUSH = 0;
        static final int WORD = 1;
        static final int ADD = 2;
        static final int SUBTRACT = 3;
        static final int MULTIPLY = 4;
        static final int DIVIDE = 5;
        static final int REMAIN = 6;
        static final int BELOW = 7;
        static final int ABOVE = 8;
        static final int SAME = 9;
        static final int NOT = 10;
        static final int OR = 11;
        static final int AND = 12;

        private static final long LIMIT = 1000000000;

        private final long[] stack = new long[64];

        /** What the sum or the test of a clause tells (so: 1, not so: 0), or BROKEN; 1 without one. */
        long value(Text text, int clause, int what, int[] words) {
            int from = text.head(clause, what);
            int to = Math.min(text.head(clause, what + 1), text.code.length);
            if (from < 0 || from >= to) {
                return 1;
            }
            int top = 0;
            for (int i = from; i < to; i++) {
                int operation = text.code[i] >> SHIFT;
                int number = text.code[i] & (1 << SHIFT) - 1;
                if (operation <= WORD) {
                    if (top >= stack.length || operation == WORD && number >= words.length) {
                        return BROKEN;
                    }
                    stack[top] = operation == WORD ? words[number] : number;
                    top++;
                    continue;
                }
                if (top < 1 || operation < NOT && top < 2) {
                    return BROKEN;
                }
                if (operation == NOT) {
                    stack[top - 1] = 1 - stack[top - 1];
                } else if (operation > NOT) {
                    // What stands behind is left out once it can't matter; jumps only go on.
                    boolean decided = stack[top - 1] == 1 == (operation == OR);
                    i = decided ? Math.max(i, number - 1) : i;
                    top = decided ? top : top - 1;
                } else {
                    long result = combined(operation, stack[top - 2], stack[top - 1]);
                    if (result > LIMIT || result < -LIMIT) {
                        return BROKEN;
                    }
                    top--;
                    stack[top - 1] = result;
                }
            }
            return top == 1 ? stack[0] : BROKEN;
        }

        private static long combined(int operation, long a, long b) {
            switch (operation) {
                case ADD: return a + b;
                case SUBTRACT: return a - b;
                case MULTIPLY: return a * b;
                case DIVIDE: return b == 0 ? BROKEN : a / b;
                case REMAIN: return b == 0 ? BROKEN : a % b;
                case BELOW: return a < b ? 1 : 0;
                case ABOVE: return a > b ? 1 : 0;
                default: return a == b ? 1 : 0;
            }
        }
    }

    /** Reads the tape's text in one of the two languages and turns it into code. */
    private static final class Reader {
        /** Where "cell" stands among the words of the second language: it and "powder" name a ship. */
        static final int CELL_OF = 5;

        private static final String FIRST_WORDS = "ship sign long means cell powder day mood ";
        private static final String SECOND_WORDS = "day done latest hung ways cell powder ";
        private static final String FIRST_KINDS = "weighs goes bars ";
        private static final String SECOND_KINDS = "hang take sail pass ";

        private static final int MOST_PARTS = 50;
        private static final int MOST_DEEP = 8;
        private static final int MOST_NUMBER = 1000;
        private static final int MOST_TIMES = 20;

        /** Marks of tokens; a token of any other kind is marked by its byte. */
        private static final int NOTHING = -1;
        private static final int LETTERS = 'a';
        private static final int DIGITS = '0';

        final Text draft = new Text(new int[MOST_CLAUSES * Text.NUMBERS], 0, new int[MOST_BYTES], 0);
        /** Where the first token stands that can't go on; NONE without. */
        int faultAt = NONE;

        private int[] tape;
        private int length;
        private boolean second;
        private int parts;
        private int mark;
        private int start;
        private int stop;
        private int number;

        boolean parse(int[] bytes, int many, boolean secondLanguage) {
            begin(bytes, many, secondLanguage);
            for (int c = 0; c < MOST_CLAUSES; c++) {
                int kind = pick(second ? SECOND_KINDS : FIRST_KINDS);
                if (kind == NONE) {
                    return fail();
                }
                step();
                int sumFrom = draft.size;
                boolean summed = second ? kind == HANG || kind == SAIL : kind != BARS;
                if (summed && !sum(false, 0)) {
                    return false;
                }
                int testFrom = draft.size;
                int times = second && pick("times ") == 0 ? times() : 1;
                if (times == NONE) {
                    return false;
                }
                if (pick("if ") == 0) {
                    step();
                    if (!test(false, 0)) {
                        return false;
                    }
                }
                draft.close(kind, times, sumFrom, testFrom);
                if (mark != ';') {
                    return mark == NOTHING || fail();
                }
                step();
            }
            return fail();
        }

        private void begin(int[] bytes, int many, boolean secondLanguage) {
            tape = bytes;
            length = Math.min(many, bytes.length);
            second = secondLanguage;
            parts = 0;
            faultAt = NONE;
            draft.clauses = 0;
            draft.size = 0;
            stop = 0;
            step();
        }

        /** How often a clause is run; NONE if that can't be. */
        private int times() {
            step();
            if (mark != DIGITS || number < 1 || number > MOST_TIMES) {
                fail();
                return NONE;
            }
            int times = number;
            step();
            return times;
        }

        /** A test, or (tight) one of those that "or" joins; deep tells how many brackets are open. */
        private boolean test(boolean tight, int deep) {
            if (!(tight ? plain(deep) : test(true, deep))) {
                return false;
            }
            for (int n = 0; n < MOST_BYTES && pick(tight ? "and " : "or ") == 0; n++) {
                step();
                int jump = draft.size;
                emit(tight ? Machine.AND : Machine.OR, 0);
                if (!(tight ? plain(deep) : test(true, deep))) {
                    return false;
                }
                // It lands at the next jump of its row, which goes on in the same way.
                if (jump < draft.size) {
                    draft.code[jump] += draft.size;
                }
            }
            return true;
        }

        private boolean plain(int deep) {
            boolean turned = false;
            for (int n = 0; n < MOST_BYTES && pick("not ") == 0; n++) {
                turned = !turned;
                step();
            }
            if (mark == '(') {
                if (deep >= MOST_DEEP) {
                    return fail();
                }
                step();
                if (!test(false, deep + 1)) {
                    return false;
                }
                if (mark != ')') {
                    return fail();
                }
                step();
            } else {
                if (!sum(false, deep)) {
                    return false;
                }
                int sign = mark;
                if (sign != '<' && sign != '>' && sign != '=') {
                    return fail();
                }
                step();
                if (!sum(false, deep)) {
                    return false;
                }
                emit(sign == '<' ? Machine.BELOW : sign == '>' ? Machine.ABOVE : Machine.SAME, 0);
            }
            if (turned) {
                emit(Machine.NOT, 0);
            }
            return true;
        }

        /** A sum, or (tight) one of those that + and - join. */
        private boolean sum(boolean tight, int deep) {
            if (!(tight ? part(deep) : sum(true, deep))) {
                return false;
            }
            for (int n = 0; n < MOST_BYTES; n++) {
                int operation = tight
                    ? mark == '*' ? Machine.MULTIPLY : mark == '/' ? Machine.DIVIDE : mark == '%' ? Machine.REMAIN : NONE
                    : mark == '+' ? Machine.ADD : mark == '-' ? Machine.SUBTRACT : NONE;
                if (operation == NONE) {
                    return true;
                }
                step();
                if (!(tight ? part(deep) : sum(true, deep))) {
                    return false;
                }
                emit(operation, 0);
            }
            return true;
        }

        private boolean part(int deep) {
            if (mark == '[') {
                if (deep >= MOST_DEEP) {
                    return fail();
                }
                step();
                if (!sum(false, deep + 1)) {
                    return false;
                }
                if (mark != ']') {
                    return fail();
                }
                step();
                return true;
            }
            boolean digits = mark == DIGITS;
            int word = digits ? NONE : pick(second ? SECOND_WORDS : FIRST_WORDS);
            if (parts >= MOST_PARTS || (digits ? number > MOST_NUMBER : word == NONE)) {
                return fail();
            }
            parts++;
            int value = digits ? number : word;
            step();
            if (second && word >= CELL_OF) {
                if (mark != DIGITS || number >= MOST_SHIPS) {
                    return fail();
                }
                value = CELL_OF + (word - CELL_OF) * MOST_SHIPS + number;
                step();
            }
            emit(digits ? Machine.PUSH : Machine.WORD, value);
            return true;
        }

        private boolean fail() {
            faultAt = start;
            return false;
        }

        /** Every operation has a token of its own, so there is room for all of them. */
        private void emit(int operation, int operand) {
            if (draft.size < draft.code.length) {
                draft.code[draft.size] = operation << Machine.SHIFT | operand;
                draft.size++;
            }
        }

        /** Goes on to the next token. */
        private void step() {
            int i = stop;
            while (i < length && tape[i] == ' ') {
                i++;
            }
            start = i;
            mark = i < length ? tape[i] : NOTHING;
            number = 0;
            if (mark >= 'a' && mark <= 'z') {
                mark = LETTERS;
                while (i < length && tape[i] >= 'a' && tape[i] <= 'z') {
                    i++;
                }
            } else if (mark >= '0' && mark <= '9') {
                mark = DIGITS;
                while (i < length && tape[i] >= '0' && tape[i] <= '9') {
                    number = Math.min(10 * number + tape[i] - '0', MOST_NUMBER + 1);
                    i++;
                }
            } else if (mark != NOTHING) {
                i++;
            }
            stop = i;
        }

        /** Which word of a list, each with a blank behind it, the token is; NONE without. */
        private int pick(String list) {
            if (mark != LETTERS) {
                return NONE;
            }
            int word = 0;
            int at = start;
            boolean same = true;
            for (int i = 0; i < list.length(); i++) {
                char letter = list.charAt(i);
                if (letter != ' ') {
                    same = same && at < stop && tape[at] == letter;
                    at++;
                } else if (same && at == stop) {
                    return word;
                } else {
                    word++;
                    at = start;
                    same = true;
                }
            }
            return NONE;
        }
    }

    /** Reads the line for a ship by a law, and does what was read, on paper. */
    private static final class Captain {
        /** Where the words of the first language stand. */
        private static final int OF_SHIP = 0;
        private static final int OF_SIGN = 1;
        private static final int OF_LONG = 2;
        private static final int OF_MEANS = 3;
        private static final int OF_CELL = 4;
        private static final int OF_POWDER = 5;
        private static final int OF_DAY = 6;
        private static final int OF_MOOD = 7;

        private final Machine machine = new Machine();
        private final int[] words = new int[OF_MOOD + 1];
        private final int[] weights = new int[MOST_SIGNS];
        /** From each cloth of the line to its end: the least price, or how many ways there are. */
        private final int[] onward = new int[MOST_CLOTHS + 1];
        private final int[] picked = new int[MOST_CLOTHS];
        /** How many signs were picked, and what they cost together. */
        int length;
        int price;
        private Text law;
        int spot;

        /** The ship, and the law it is asked by, for the questions that follow. */
        void board(State s, int ship, Text byLaw) {
            law = byLaw;
            spot = s.spotOf[ship];
            words[OF_SHIP] = ship;
            words[OF_DAY] = s.termOf[DAY];
            words[OF_MOOD] = s.termOf[MOOD];
        }

        int weighs(State s, int sign) {
            words[OF_SIGN] = sign;
            words[OF_LONG] = s.longOf[sign];
            long told = lawTells(WEIGHS, s.meansOf[sign]);
            return told == BROKEN ? s.longOf[sign] : (int) Math.max(0, Math.min(99, told));
        }

        int goes() {
            words[OF_SIGN] = NONE;
            words[OF_LONG] = NONE;
            long told = lawTells(GOES, AHEAD);
            return told == BROKEN ? 1 : (int) Math.max(0, Math.min(4, told));
        }

        boolean barred(int order) {
            words[OF_SIGN] = NONE;
            words[OF_LONG] = NONE;
            return lawTells(BARS, order) != BROKEN;
        }

        /** What the last clause of a kind that holds tells; BROKEN if none holds. */
        private long lawTells(int kind, int means) {
            if (law == null) {
                return BROKEN;
            }
            words[OF_MEANS] = means;
            words[OF_CELL] = cellOf(spot);
            words[OF_POWDER] = powderOf(spot);
            for (int c = law.clauses - 1; c >= 0; c--) {
                if (law.head(c, Text.KIND) == kind && machine.value(law, c, Text.TEST, words) == 1) {
                    long told = machine.value(law, c, Text.SUM, words);
                    if (told != BROKEN) {
                        return told;
                    }
                }
            }
            return BROKEN;
        }

        /** Picks what the ship reads by the law; false if there is no reading. */
        boolean choose(State s, int ship, Text byLaw) {
            board(s, ship, byLaw);
            for (int sign = 0; sign < s.signs; sign++) {
                weights[sign] = weighs(s, sign);
            }
            return pick(s, false);
        }

        /** Picks the cheapest row of signs, the first of these, by weights or by cloths to mend. */
        boolean pick(State s, boolean mending) {
            onward[s.hung] = 0;
            for (int from = s.hung - 1; from >= 0; from--) {
                int least = FAR;
                for (int sign = 0; sign < s.signs; sign++) {
                    least = Math.min(least, priceFrom(s, sign, from, mending));
                }
                onward[from] = least;
            }
            price = onward[0];
            length = 0;
            int from = 0;
            while (price < FAR && from < s.hung && length < MOST_CLOTHS) {
                int sign = 0;
                while (sign < s.signs - 1 && priceFrom(s, sign, from, mending) != onward[from]) {
                    sign++;
                }
                picked[length] = sign;
                length++;
                from += Math.max(1, s.longOf[sign]);
            }
            return price < FAR;
        }

        /** The least price from a cloth to the line's end, if the sign stands there; FAR if it can't. */
        private int priceFrom(State s, int sign, int from, boolean mending) {
            int others = s.others(sign, from);
            if (others >= FAR || others > 0 && !mending) {
                return FAR;
            }
            int own = mending ? others : weights[sign];
            return Math.min(FAR, own + onward[from + s.longOf[sign]]);
        }

        /** Of what was picked the whole (i NONE), or its i-th sign. */
        int told(int whole, int i) {
            if (i == NONE) {
                return whole;
            }
            return within(i, length) ? picked[i] : NONE;
        }

        /** The ship that boarded does what was picked. */
        void follow(State s) {
            for (int i = 0; i < length; i++) {
                int order = s.meansOf[picked[i]];
                if (!barred(order)) {
                    spot = behind(spot, order, order == AHEAD ? goes() : 0);
                }
            }
        }

        /** How many readings of the line begin with so many of the orders done. */
        int fitting(State s, int done) {
            onward[s.hung] = 1;
            for (int from = s.hung - 1; from >= 0; from--) {
                onward[from] = waysFrom(s, from, NONE);
            }
            for (int k = done - 1; k >= 0; k--) {
                // Rising, as each place looks only at later ones, which still tell of order k + 1.
                for (int from = 0; from < s.hung; from++) {
                    onward[from] = waysFrom(s, from, s.doneOf[k]);
                }
                onward[s.hung] = 0;
            }
            return onward[0];
        }

        private int waysFrom(State s, int from, int means) {
            int ways = 0;
            for (int sign = 0; sign < s.signs; sign++) {
                boolean meant = means == NONE || s.meansOf[sign] == means;
                if (meant && s.others(sign, from) == 0) {
                    ways += onward[from + s.longOf[sign]];
                }
            }
            return ways;
        }
    }

    /** The fewest cloths by which a ship comes to a cell. */
    private static final class Course {
        private static final int SPOTS = CELLS * WAYS * POWDERS;
        private static final int MOST_FAR = MOST_LONG * SPOTS;
        private static final int RING = 8;

        /** By how few cloths each spot is reached; NONE: it is not, or it leads astray. */
        private final int[] far = new int[SPOTS];
        /** The spots reached, the nearest first. */
        private final int[] reached = new int[SPOTS];
        private int many;
        /** Where among them the spots of the latest distances begin, by distance modulo RING. */
        private final int[] begins = new int[RING];
        /** By cell and powder: a bit for each order barred, above how far a ship goes; NONE: not asked. */
        private final int[] habits = new int[CELLS * POWDERS];

        /** The fewest cloths from a spot to a cell for the ship that boarded; NONE: it can't be. */
        int search(State s, Captain captain, int start, int cell) {
            Arrays.fill(far, NONE);
            Arrays.fill(habits, NONE);
            many = 0;
            begins[0] = 0;
            boolean found = arrive(start, 0) == cell;
            int d = 0;
            while (!found && d < MOST_FAR && many > begins[Math.max(0, d - 3) % RING]) {
                for (int i = begins[d % RING]; i < many; i++) {
                    learn(s, captain, reached[i]);
                }
                d++;
                begins[d % RING] = many;
                for (int size = 1; size <= Math.min(d, MOST_LONG); size++) {
                    found = spread(s, size, d, cell) || found;
                }
            }
            if (!found) {
                return NONE;
            }
            forgetAstray(s, d, cell);
            return d;
        }

        /** The i-th sign of the first way that search() found. */
        int signAt(State s, int start, int i) {
            int spot = start;
            int sign = leadingSign(s, spot);
            for (int n = 0; n < i && n < MOST_FAR && sign != NONE; n++) {
                spot = next(spot, s.meansOf[sign]);
                sign = leadingSign(s, spot);
            }
            return sign;
        }

        /** Reaches a spot, if it was not reached before: its cell. */
        private int arrive(int spot, int cloths) {
            if (far[spot] == NONE && many < SPOTS) {
                far[spot] = cloths;
                reached[many] = spot;
                many++;
            }
            return cellOf(spot);
        }

        private void learn(State s, Captain captain, int spot) {
            int k = cellOf(spot) * POWDERS + powderOf(spot);
            if (habits[k] != NONE) {
                return;
            }
            captain.spot = spot;
            int asked = 0;
            int bars = 0;
            for (int sign = 0; sign < s.signs; sign++) {
                int order = s.meansOf[sign];
                if ((asked >> order & 1) == 0 && captain.barred(order)) {
                    bars |= 1 << order;
                }
                asked |= 1 << order;
            }
            boolean moves = (asked & ~bars & 1 << AHEAD) != 0;
            habits[k] = bars | (moves ? captain.goes() : 0) << ORDERS;
        }

        /** From the spots that are so many cloths nearer, by the signs of just that size. */
        private boolean spread(State s, int size, int cloths, int cell) {
            boolean found = false;
            int from = begins[(cloths - size) % RING];
            int to = begins[(cloths - size + 1) % RING];
            for (int sign = 0; sign < s.signs; sign++) {
                if (s.longOf[sign] == size) {
                    for (int i = from; i < to; i++) {
                        found = arrive(next(reached[i], s.meansOf[sign]), cloths) == cell || found;
                    }
                }
            }
            return found;
        }

        private int next(int spot, int order) {
            int habit = habits[cellOf(spot) * POWDERS + powderOf(spot)];
            if (habit == NONE || (habit >> order & 1) == 1) {
                return spot;
            }
            return behind(spot, order, habit >> ORDERS);
        }

        /** Leaves only the spots that lie on a way of so few cloths to the cell. */
        private void forgetAstray(State s, int fewest, int cell) {
            for (int i = many - 1; i >= 0; i--) {
                int spot = reached[i];
                boolean leads = far[spot] == fewest ? cellOf(spot) == cell : leadingSign(s, spot) != NONE;
                far[spot] = leads ? far[spot] : NONE;
            }
        }

        /** The first sign that goes on along such a way. */
        private int leadingSign(State s, int spot) {
            for (int sign = 0; sign < s.signs; sign++) {
                if (far[next(spot, s.meansOf[sign])] == far[spot] + s.longOf[sign]) {
                    return sign;
                }
            }
            return NONE;
        }
    }

    /** Whether some line has two readings: what one of two readings is ahead of the other by. */
    private static final class Codebook {
        /** Rows of cloths with a 1 above them, so that rows of other lengths are other numbers. */
        private final int[] codes = new int[MOST_SIGNS];
        /** By the row one reading is ahead by (up to 3 cloths): the cloths of the longer reading. */
        private final int[] cloths = new int[128];
        private final int[] leads = new int[128];
        private int many;

        /** The fewest cloths of a line with two readings by the signs kept (as bits); FAR: none. */
        int fewest(State s, int kept) {
            int signs = 0;
            for (int sign = 0; sign < s.signs; sign++) {
                if ((kept >> sign & 1) == 1) {
                    codes[signs] = 1 << 2 * s.longOf[sign] | s.rowOf[sign];
                    signs++;
                }
            }
            Arrays.fill(cloths, FAR);
            many = 0;
            for (int a = 0; a < signs; a++) {
                for (int b = 0; b < signs; b++) {
                    offer(left(codes[a], codes[b]), size(codes[b]));
                }
            }
            boolean better = many > 0;
            for (int round = 0; round < cloths.length && better; round++) {
                better = improve(signs);
            }
            int fewest = FAR;
            for (int a = 0; a < signs; a++) {
                fewest = Math.min(fewest, codes[a] < cloths.length ? cloths[codes[a]] : FAR);
            }
            return fewest;
        }

        private boolean improve(int signs) {
            boolean better = false;
            for (int i = 0; i < many; i++) {
                int lead = leads[i];
                for (int a = 0; a < signs; a++) {
                    int shorter = left(codes[a], lead);
                    int turned = left(lead, codes[a]);
                    better = offer(shorter, cloths[lead]) || better;
                    better = offer(turned, cloths[lead] + size(turned)) || better;
                }
            }
            return better;
        }

        /** Notes that one reading can be ahead by a row; whether that is new or by fewer cloths. */
        private boolean offer(int lead, int by) {
            if (!within(lead, cloths.length) || cloths[lead] <= by) {
                return false;
            }
            if (cloths[lead] == FAR && many < leads.length) {
                leads[many] = lead;
                many++;
            }
            cloths[lead] = by;
            return true;
        }

        /** What is left of a row behind its beginning; NONE if it does not begin so, or nothing is left. */
        private static int left(int beginning, int row) {
            int behind = 2 * (size(row) - size(beginning));
            if (behind <= 0 || row >> behind != beginning) {
                return NONE;
            }
            return 1 << behind | row & (1 << behind) - 1;
        }

        private static int size(int code) {
            return code < 4 ? 0 : code < 16 ? 1 : code < 64 ? 2 : code < 256 ? 3 : 4;
        }
    }
}
