/** A green of plots in which a sexton keeps the hours that are over: see DOC.md for each promise. */
public final class HourGreen {
    public static final int BAD = -1, NO = -2, FULL = -3, NONE = -4;

    private static final int MOST_PLOTS = 5, MOST_HOURS = 7, MOST_ROOM = 9, MOST_WORTH = 20;
    private static final int FROST_YEARS = 40, LAST_YEAR = 999;
    private static final int MOST_UNDONE = 8, MOST_KEPT = 2;
    private static final int NEAR_YEARS = 20, FAR_YEARS = 60, CHANCE_YEARS = 8;
    private static final int MOST_DRAW = 9999;
    private static final int PORCH = NONE;
    private static final int KIND_PLAIN = 0, KIND_BAD = 1, KIND_POOR = 2, KIND_STONED = 3, KINDS = 4;
    private static final String FIRST = "g4;g3;g5;h0,3,0;h1,7,0;h2,2,1;h2,4,1;h3,9,2;w0,5;w1,6;f2;";

    private final Script script;
    private final Green now;
    // What would be, so that asking never touches what is and makes no object.
    private final Green trial;
    private final Shelf past;
    private final Shelf kept;
    private final Sightings sightings;
    private final Packing packing;
    private final Odds odds;

    public HourGreen() {
        script = new Script();
        now = new Green();
        trial = new Green();
        past = new Shelf(MOST_UNDONE);
        kept = new Shelf(MOST_KEPT);
        sightings = new Sightings();
        packing = new Packing();
        odds = new Odds();
        for (int i = 0; i < FIRST.length(); i++) {
            script.add(FIRST.charAt(i));
        }
        script.readInto(now);
        script.empty();
    }

    // ---- greens

    public int write(int letter) {
        if (letter < 32 || letter > 126) {
            return BAD;
        }
        return script.add(letter) ? script.length : FULL;
    }

    public int wipe() {
        return script.empty();
    }

    public int fault() {
        return script.readInto(trial);
    }

    public int lay() {
        if (script.readInto(trial) != NONE || trial.plotCount == 0 || trial.hourCount == 0) {
            return NO;
        }
        now.copyFrom(trial);
        past.empty();
        kept.empty();
        sightings.empty();
        return now.hourCount;
    }

    public int plot(int p, int what) {
        if (!now.hasPlot(p)) {
            return BAD;
        }
        switch (what) {
            case 0: return now.roomOf(p);
            case 1: return now.freeIn(p);
            case 2: return now.heightOf(p);
            case 3: return now.topOf(p);
            default: return BAD;
        }
    }

    public int hour(int h, int what) {
        if (!now.hasHour(h)) {
            return BAD;
        }
        switch (what) {
            case 0: return now.kindOf(h);
            case 1: return now.worthOf(h);
            case 2: return now.placeOf(h);
            case 3: return now.lies(h) ? now.depthOf(h) : NONE;
            case 4: return now.lies(h) ? now.needOf(h) : NONE;
            default: return BAD;
        }
    }

    public int fits(int h, int p) {
        if (!now.hasHour(h) || !now.hasPlot(p)) {
            return BAD;
        }
        return now.hasRoomFor(h, p) ? 1 : 0;
    }

    // ---- acts

    public int pass(int n) {
        if (!isWithin(n, 1, NEAR_YEARS)) {
            return BAD;
        }
        if (now.year + n > LAST_YEAR) {
            return NO;
        }
        past.store(now);
        return now.passYears(n);
    }

    public int put(int h, int p) {
        if (!now.hasHour(h) || !now.hasPlot(p)) {
            return BAD;
        }
        if (!now.canBePutIn(h, p)) {
            return NO;
        }
        past.store(now);
        now.setOnTop(h, p);
        return now.freeIn(p);
    }

    public int up(int h) {
        if (!now.hasHour(h)) {
            return BAD;
        }
        if (!now.lies(h)) {
            return NO;
        }
        past.store(now);
        return now.takeUp(h);
    }

    public int dig(int p) {
        if (!now.hasPlot(p)) {
            return BAD;
        }
        if (now.roomOf(p) >= MOST_ROOM) {
            return NO;
        }
        past.store(now);
        now.deepen(p);
        return now.roomOf(p);
    }

    public int undo() {
        return past.fetchInto(now) ? past.held : NO;
    }

    // ---- what comes, what is best

    public int out(int h) {
        if (!now.hasHour(h)) {
            return BAD;
        }
        trial.copyFrom(now);
        for (int n = 0; n <= FAR_YEARS; n++) {
            if (!trial.lies(h)) {
                return n;
            }
            trial.passYears(1);
        }
        return NONE;
    }

    public int behind(int n, int h) {
        if (!isWithin(n, 0, FAR_YEARS) || !now.hasHour(h)) {
            return BAD;
        }
        trial.copyFrom(now);
        trial.passYears(n);
        return trial.placeOf(h);
    }

    public int above(int h) {
        return now.hasHour(h) ? now.bitsAbove(h) : BAD;
    }

    public int packs(int h) {
        if (h != -1 && !now.hasHour(h)) {
            return BAD;
        }
        int most = packing.mostOf(now, -1);
        return h == -1 ? most : packing.placeOf(h);
    }

    public int stir(int set) {
        if (set < 0 || set >= now.setCount()) {
            return BAD;
        }
        return now.allLie(set) ? now.stirOf(set) : NO;
    }

    public int cheap(int v, int what) {
        if (!isWithin(v, 1, MOST_HOURS * MOST_WORTH) || !isWithin(what, 0, 1)) {
            return BAD;
        }
        int set = now.cheapestSet(v);
        if (set == 0) {
            return NONE;
        }
        return what == 0 ? set : now.stirOf(set);
    }

    public int deeper(int what) {
        if (!isWithin(what, 0, 1)) {
            return BAD;
        }
        int best = NONE;
        int most = -1;
        for (int p = 0; p < now.plotCount; p++) {
            if (now.roomOf(p) < MOST_ROOM) {
                trial.copyFrom(now);
                trial.deepen(p);
                int packed = packing.mostOf(trial, most);
                if (packed > most) {
                    most = packed;
                    best = p;
                }
            }
        }
        return what == 0 || best == NONE ? best : most;
    }

    public int years(int n) {
        if (!isWithin(n, 1, NEAR_YEARS)) {
            return BAD;
        }
        // A year throws out one hour at most, so hours thrown out are years in which one is.
        trial.copyFrom(now);
        return trial.passYears(n);
    }

    // ---- what was seen

    public int seen(int n, int h, int is) {
        if (!isWithin(n, 0, NEAR_YEARS) || !now.hasHour(h) || !isWithin(is, 0, 1)) {
            return BAD;
        }
        return sightings.add(n, h, is == 1) ? sightings.held : FULL;
    }

    public int forget() {
        return sightings.empty();
    }

    public int plots(int h) {
        if (!now.hasHour(h)) {
            return BAD;
        }
        int bits = 0;
        for (int p = 0; p < now.plotCount; p++) {
            trial.copyFrom(now);
            trial.takeUp(h);
            trial.setOnTop(h, p);
            if (sightings.comeTrueIn(trial)) {
                bits |= 1 << p;
            }
        }
        return bits;
    }

    public int kinds(int h) {
        if (!now.hasHour(h)) {
            return BAD;
        }
        int bits = 0;
        for (int kind = 0; kind < KINDS; kind++) {
            trial.copyFrom(now);
            trial.setKind(h, kind);
            if (sightings.comeTrueIn(trial)) {
                bits |= 1 << kind;
            }
        }
        return bits;
    }

    // ---- chances, decades

    public int likely(int h, int n, int x, int part) {
        if (!now.hasHour(h) || !isWithin(n, 0, CHANCE_YEARS) || !isWithin(x, 0, 10) || !isWithin(part, 0, 1)) {
            return BAD;
        }
        if (!now.lies(h)) {
            return NO;
        }
        odds.reckon(now.visitsTo(now.placeOf(h), n), x, now.throwsBorneBy(h));
        return part == 0 ? odds.upper : odds.lower;
    }

    public int decade(int z, int n, int what) {
        if (!isWithin(z, 0, MOST_DRAW) || !isWithin(n, 1, FAR_YEARS) || !isWithin(what, 0, 2)) {
            return BAD;
        }
        trial.copyFrom(now);
        trial.stirred = 0;
        for (int i = 0; i < n; i++) {
            trial.actByDraw(drawOf(z, i));
            trial.passYears(1);
        }
        switch (what) {
            case 0: return trial.lyingCount();
            case 1: return trial.lyingWorth();
            default: return trial.stirred;
        }
    }

    // ---- kept

    public int keep() {
        if (kept.isFull()) {
            return FULL;
        }
        kept.store(now);
        return kept.held;
    }

    public int back() {
        if (!kept.fetchInto(now)) {
            return NO;
        }
        past.empty();
        return kept.held;
    }

    public int count(int what) {
        switch (what) {
            case 0: return now.plotCount;
            case 1: return now.hourCount;
            case 2: return now.year;
            case 3: return now.lyingCount();
            case 4: return now.lyingWorth();
            case 5: return now.isFrost() ? 1 : 0;
            case 6: return now.stirred;
            case 7: return sightings.held;
            case 8: return past.held;
            case 9: return kept.held;
            case 10: return script.length;
            default: return BAD;
        }
    }

    private static boolean isWithin(int number, int least, int most) {
        return number >= least && number <= most;
    }

    private static int drawOf(int z, int i) {
        long x = 7919L * z + 6151L * i + 1;
        return (int) (x * x % 65521 / 2);
    }

    /** The plots, the hours and the years: all that an act changes. */
    private static final class Green {
        private static final int NO_KIND = -1;

        int plotCount;
        int hourCount;
        int year;
        int stirred;
        long frost;
        final int[] room;
        final int[] kind;
        final int[] worth;
        // Hours that are not there stand in the porch, so that no search among those that lie finds them.
        final int[] place;
        final int[] depth;

        Green() {
            room = new int[MOST_PLOTS];
            kind = new int[MOST_HOURS];
            worth = new int[MOST_HOURS];
            place = new int[MOST_HOURS];
            depth = new int[MOST_HOURS];
            clear();
        }

        void clear() {
            plotCount = 0;
            hourCount = 0;
            year = 0;
            stirred = 0;
            frost = 0;
            for (int h = 0; h < MOST_HOURS; h++) {
                kind[h] = KIND_PLAIN;
                worth[h] = 0;
                place[h] = PORCH;
                depth[h] = 0;
            }
        }

        void copyFrom(Green other) {
            plotCount = other.plotCount;
            hourCount = other.hourCount;
            year = other.year;
            stirred = other.stirred;
            frost = other.frost;
            for (int p = 0; p < MOST_PLOTS; p++) {
                room[p] = other.room[p];
            }
            for (int h = 0; h < MOST_HOURS; h++) {
                kind[h] = other.kind[h];
                worth[h] = other.worth[h];
                place[h] = other.place[h];
                depth[h] = other.depth[h];
            }
        }

        boolean addPlot(int size) {
            if (!isWithin(size, 1, MOST_ROOM) || plotCount >= MOST_PLOTS) {
                return false;
            }
            room[plotCount] = size;
            plotCount++;
            return true;
        }

        boolean addHour(int ofKind, int ofWorth) {
            if (!isWithin(ofKind, 0, KINDS - 1) || !isWithin(ofWorth, 1, MOST_WORTH) || hourCount >= MOST_HOURS) {
                return false;
            }
            kind[hourCount] = ofKind;
            worth[hourCount] = ofWorth;
            hourCount++;
            return true;
        }

        boolean addLyingHour(int ofKind, int ofWorth, int p) {
            if (!addHour(ofKind, ofWorth) || !hasRoomFor(hourCount - 1, p)) {
                return false;
            }
            setOnTop(hourCount - 1, p);
            return true;
        }

        boolean addFrost(int y) {
            if (!isWithin(y, 0, FROST_YEARS - 1)) {
                return false;
            }
            frost |= 1L << y;
            return true;
        }

        boolean hasPlot(int p) {
            return p >= 0 && p < plotCount && p < MOST_PLOTS;
        }

        boolean hasHour(int h) {
            return h >= 0 && h < hourCount && h < MOST_HOURS;
        }

        int roomOf(int p) {
            return hasPlot(p) ? room[p] : 0;
        }

        int kindOf(int h) {
            return hasHour(h) ? kind[h] : NO_KIND;
        }

        int worthOf(int h) {
            return hasHour(h) ? worth[h] : 0;
        }

        int placeOf(int h) {
            return hasHour(h) ? place[h] : PORCH;
        }

        int depthOf(int h) {
            return hasHour(h) ? depth[h] : 0;
        }

        boolean lies(int h) {
            return hasHour(h) && place[h] != PORCH;
        }

        boolean isFrost() {
            return year < FROST_YEARS && (frost >> year & 1) == 1;
        }

        int heightOf(int p) {
            int height = 0;
            for (int h = 0; h < MOST_HOURS; h++) {
                if (place[h] == p) {
                    height++;
                }
            }
            return height;
        }

        int hourAt(int p, int beneath) {
            for (int h = 0; h < MOST_HOURS; h++) {
                if (place[h] == p && depth[h] == beneath) {
                    return h;
                }
            }
            return NONE;
        }

        int topOf(int p) {
            return hasPlot(p) ? hourAt(p, heightOf(p) - 1) : NONE;
        }

        static int needAbove(int kindBeneath, int ofKind) {
            if (ofKind == KIND_POOR && kindBeneath == KIND_POOR) {
                return 0;
            }
            return ofKind == KIND_BAD ? 2 : 1;
        }

        int needOf(int h) {
            if (!hasHour(h)) {
                return 0;
            }
            int beneath = hourAt(place[h], depth[h] - 1);
            return needAbove(hasHour(beneath) ? kind[beneath] : NO_KIND, kind[h]);
        }

        int freeIn(int p) {
            int free = roomOf(p);
            for (int h = 0; h < MOST_HOURS; h++) {
                if (place[h] == p) {
                    free -= needOf(h);
                }
            }
            return free;
        }

        boolean hasRoomFor(int h, int p) {
            if (!hasHour(h) || !hasPlot(p) || placeOf(h) == p) {
                return false;
            }
            int topKind = kindOf(topOf(p));
            return topKind != KIND_STONED && needAbove(topKind, kindOf(h)) <= freeIn(p);
        }

        boolean canBePutIn(int h, int p) {
            return !lies(h) && !isFrost() && hasRoomFor(h, p);
        }

        void setOnTop(int h, int p) {
            if (hasHour(h) && hasPlot(p)) {
                depth[h] = heightOf(p);
                place[h] = p;
            }
        }

        void setKind(int h, int ofKind) {
            if (hasHour(h)) {
                kind[h] = ofKind;
            }
        }

        void deepen(int p) {
            if (hasPlot(p)) {
                room[p]++;
            }
        }

        boolean isAbove(int other, int h) {
            return lies(h) && placeOf(other) == placeOf(h) && depthOf(other) > depthOf(h);
        }

        int bitsAbove(int h) {
            int bits = 0;
            for (int other = 0; other < hourCount; other++) {
                if (isAbove(other, h)) {
                    bits |= 1 << other;
                }
            }
            return bits;
        }

        int takeUp(int h) {
            if (!lies(h)) {
                return 0;
            }
            int moved = 0;
            for (int other = 0; other < MOST_HOURS; other++) {
                if (isAbove(other, h)) {
                    depth[other]--;
                    moved++;
                }
            }
            place[h] = PORCH;
            stirred += moved;
            return moved;
        }

        static boolean isLoose(int ofKind) {
            return ofKind == KIND_PLAIN || ofKind == KIND_POOR;
        }

        int rabbitPlot(int inYear) {
            return plotCount > 0 ? inYear % plotCount : NONE;
        }

        int passYears(int n) {
            int thrown = 0;
            for (int i = 0; i < n; i++) {
                int top = topOf(rabbitPlot(year));
                if (hasHour(top) && isLoose(kindOf(top))) {
                    place[top] = PORCH;
                    thrown++;
                }
                year++;
            }
            return thrown;
        }

        int visitsTo(int p, int n) {
            int visits = 0;
            for (int i = 0; i < n; i++) {
                if (rabbitPlot(year + i) == p) {
                    visits++;
                }
            }
            return visits;
        }

        /** How often rabbits may throw out what is on top while the hour still lies. */
        int throwsBorneBy(int h) {
            int borne = 0;
            for (int other = 0; other < hourCount; other++) {
                if (other == h || isAbove(other, h)) {
                    if (!isLoose(kindOf(other))) {
                        return CHANCE_YEARS;
                    }
                    borne++;
                }
            }
            return borne - 1;
        }

        void actByDraw(int draw) {
            if (hourCount < 1 || plotCount < 1) {
                return;
            }
            int h = draw % hourCount;
            int p = draw / 8 % plotCount;
            if (!lies(h)) {
                if (canBePutIn(h, p)) {
                    setOnTop(h, p);
                }
            } else if (draw / 64 % 4 == 0) {
                takeUp(h);
            }
        }

        int lyingCount() {
            int lying = 0;
            for (int h = 0; h < hourCount; h++) {
                if (lies(h)) {
                    lying++;
                }
            }
            return lying;
        }

        int lyingWorth() {
            int sum = 0;
            for (int h = 0; h < hourCount; h++) {
                if (lies(h)) {
                    sum += worthOf(h);
                }
            }
            return sum;
        }

        int setCount() {
            return 1 << hourCount;
        }

        boolean allLie(int set) {
            for (int h = 0; h < hourCount; h++) {
                if ((set >> h & 1) == 1 && !lies(h)) {
                    return false;
                }
            }
            return true;
        }

        int worthOfSet(int set) {
            int sum = 0;
            for (int h = 0; h < hourCount; h++) {
                if ((set >> h & 1) == 1) {
                    sum += worthOf(h);
                }
            }
            return sum;
        }

        int stirOf(int set) {
            int bits = 0;
            for (int h = 0; h < hourCount; h++) {
                if ((set >> h & 1) == 1) {
                    bits |= bitsAbove(h);
                }
            }
            return Integer.bitCount(bits & ~set);
        }

        /** The set of hours to have up for a worth of v or more, 0 if there is none. */
        int cheapestSet(int v) {
            int best = 0;
            int leastCost = 0;
            for (int set = 1; set < setCount(); set++) {
                if (worthOfSet(set) >= v && allLie(set)) {
                    // A set has less than 8 hours, so those stirred always weigh more than those taken.
                    int cost = stirOf(set) * 8 + Integer.bitCount(set);
                    if (best == 0 || cost < leastCost) {
                        leastCost = cost;
                        best = set;
                    }
                }
            }
            return best;
        }
    }

    /** The text as it is written, and how a green is read from it. */
    private static final class Script {
        private static final int MOST_LETTERS = 200, MOST_NUMBERS = 3;

        int length;
        private final char[] letters;
        private final int[] numbers;

        Script() {
            letters = new char[MOST_LETTERS];
            numbers = new int[MOST_NUMBERS];
        }

        boolean add(int letter) {
            if (length >= MOST_LETTERS) {
                return false;
            }
            letters[length] = (char) letter;
            length++;
            return true;
        }

        int empty() {
            int was = length;
            length = 0;
            return was;
        }

        /** Fills the green from the text: the place of the first fault, or NONE. */
        int readInto(Green green) {
            green.clear();
            int at = 0;
            while (at < length) {
                int end = readItem(at);
                if (end <= at || !tell(green, letterAt(at))) {
                    return at;
                }
                at = end;
            }
            return NONE;
        }

        private char letterAt(int at) {
            return at >= 0 && at < length && at < MOST_LETTERS ? letters[at] : 0;
        }

        /** Reads the numbers of the item that begins there: the place behind it, or NONE. */
        private int readItem(int start) {
            int wanted = numbersOf(letterAt(start));
            if (wanted == 0) {
                return NONE;
            }
            int at = start + 1;
            for (int i = 0; i < wanted && i < MOST_NUMBERS; i++) {
                int figures = figuresAt(at);
                if (figures == 0) {
                    return NONE;
                }
                numbers[i] = numberAt(at, figures);
                at += figures;
                if (letterAt(at) != (i == wanted - 1 ? ';' : ',')) {
                    return NONE;
                }
                at++;
            }
            return at;
        }

        private static int numbersOf(char letter) {
            switch (letter) {
                case 'g': return 1;
                case 'h': return 3;
                case 'w': return 2;
                case 'f': return 1;
                default: return 0;
            }
        }

        private int figuresAt(int at) {
            if (!isFigure(letterAt(at))) {
                return 0;
            }
            return isFigure(letterAt(at + 1)) ? 2 : 1;
        }

        private static boolean isFigure(char letter) {
            return letter >= '0' && letter <= '9';
        }

        private int numberAt(int at, int figures) {
            int first = letterAt(at) - '0';
            return figures == 1 ? first : first * 10 + letterAt(at + 1) - '0';
        }

        private boolean tell(Green green, char letter) {
            switch (letter) {
                case 'g': return green.addPlot(numbers[0]);
                case 'h': return green.addLyingHour(numbers[0], numbers[1], numbers[2]);
                case 'w': return green.addHour(numbers[0], numbers[1]);
                case 'f': return green.addFrost(numbers[0]);
                default: return false;
            }
        }
    }

    /** Greens as they once stood, of which the last stored comes back first. */
    private static final class Shelf {
        int held;
        private int next;
        private final Green[] greens;

        Shelf(int most) {
            greens = new Green[Math.max(1, most)];
            for (int i = 0; i < greens.length; i++) {
                greens[i] = new Green();
            }
        }

        void empty() {
            held = 0;
        }

        boolean isFull() {
            return held >= greens.length;
        }

        /** On a full shelf the oldest makes way. */
        void store(Green green) {
            Green slot = slotAt(next);
            if (slot == null) {
                return;
            }
            slot.copyFrom(green);
            next = next + 1 < greens.length ? next + 1 : 0;
            if (!isFull()) {
                held++;
            }
        }

        boolean fetchInto(Green green) {
            int last = next > 0 ? next - 1 : greens.length - 1;
            Green slot = slotAt(last);
            if (held == 0 || slot == null) {
                return false;
            }
            green.copyFrom(slot);
            next = last;
            held--;
            return true;
        }

        private Green slotAt(int i) {
            return i >= 0 && i < greens.length ? greens[i] : null;
        }
    }

    /** What was seen: that some years on an hour is in the porch, or not. */
    private static final class Sightings {
        private static final int MOST_SEEN = 6;

        int held;
        private final int[] ahead;
        private final int[] hourSeen;
        private final boolean[] inPorch;

        Sightings() {
            ahead = new int[MOST_SEEN];
            hourSeen = new int[MOST_SEEN];
            inPorch = new boolean[MOST_SEEN];
        }

        boolean add(int n, int h, boolean porch) {
            if (held >= MOST_SEEN) {
                return false;
            }
            ahead[held] = n;
            hourSeen[held] = h;
            inPorch[held] = porch;
            held++;
            return true;
        }

        int empty() {
            int was = held;
            held = 0;
            return was;
        }

        /** Whether all comes as it was seen; the years go by in the green that is handed in. */
        boolean comeTrueIn(Green green) {
            for (int n = 0; n <= NEAR_YEARS; n++) {
                for (int i = 0; i < held && i < MOST_SEEN; i++) {
                    if (ahead[i] == n && green.lies(hourSeen[i]) == inPorch[i]) {
                        return false;
                    }
                }
                green.passYears(1);
            }
            return true;
        }
    }

    /** The search for how all that waits in the porch goes in best. */
    private static final class Packing {
        private static final int SHUT = -1;

        private int best;
        private final int[] free;
        private final boolean[] poorOnTop;
        // What all that wait from an hour on are worth: more than that can't be won there any more.
        private final int[] waiting;
        // The most room that all that wait from an hour on could need in one plot.
        private final int[] reach;
        private final int[] tried;
        private final int[] chosen;

        Packing() {
            free = new int[MOST_PLOTS];
            poorOnTop = new boolean[MOST_PLOTS];
            waiting = new int[MOST_HOURS + 1];
            reach = new int[MOST_HOURS + 1];
            tried = new int[MOST_HOURS];
            chosen = new int[MOST_HOURS];
        }

        /** The most worth that can go in, if that is more than the bar; the bar else. */
        int mostOf(Green green, int bar) {
            for (int p = 0; p < MOST_PLOTS; p++) {
                int topKind = green.kindOf(green.topOf(p));
                free[p] = topKind == KIND_STONED ? SHUT : green.freeIn(p);
                poorOnTop[p] = topKind == KIND_POOR;
            }
            lookAhead(green);
            best = bar;
            tryFrom(this, green, 0, 0);
            return best;
        }

        private void lookAhead(Green green) {
            int loose = 0;
            int stoned = 0;
            waiting[MOST_HOURS] = 0;
            reach[MOST_HOURS] = 0;
            for (int h = MOST_HOURS - 1; h >= 0; h--) {
                boolean waits = green.hasHour(h) && !green.lies(h);
                if (waits && green.kindOf(h) == KIND_STONED) {
                    // Nothing goes in above a stoned one, so a plot takes one of these alone.
                    stoned = 1;
                } else if (waits) {
                    loose += Green.needAbove(Green.NO_KIND, green.kindOf(h));
                }
                waiting[h] = waiting[h + 1] + (waits ? green.worthOf(h) : 0);
                reach[h] = loose + stoned;
            }
        }

        int placeOf(int h) {
            return h >= 0 && h < MOST_HOURS ? chosen[h] : PORCH;
        }

        /** Ways are tried from the first on, so only one that wins more takes the place of an earlier one. */
        private static void tryFrom(Packing packing, Green green, int h, int won) {
            if (h < 0 || h > MOST_HOURS || won + packing.waiting[h] <= packing.best) {
                return;
            }
            if (h >= green.hourCount || h == MOST_HOURS) {
                packing.choose(won);
                return;
            }
            if (green.lies(h)) {
                packing.tried[h] = green.placeOf(h);
                tryFrom(packing, green, h + 1, won);
                return;
            }
            for (int p = 0; p < green.plotCount && p < MOST_PLOTS; p++) {
                tryIn(packing, green, h, p, won);
            }
            packing.tried[h] = PORCH;
            tryFrom(packing, green, h + 1, won);
        }

        private static void tryIn(Packing packing, Green green, int h, int p, int won) {
            if (p < 0 || p >= MOST_PLOTS || h < 0 || h >= MOST_HOURS) {
                return;
            }
            int ofKind = green.kindOf(h);
            int freeBefore = packing.free[p];
            boolean poorBefore = packing.poorOnTop[p];
            int need = Green.needAbove(poorBefore ? KIND_POOR : KIND_PLAIN, ofKind);
            if (need > freeBefore || packing.hasTwinAhead(p, packing.reach[h])) {
                return;
            }
            packing.free[p] = ofKind == KIND_STONED ? SHUT : freeBefore - need;
            packing.poorOnTop[p] = ofKind == KIND_POOR;
            packing.tried[h] = p;
            tryFrom(packing, green, h + 1, won + green.worthOf(h));
            packing.free[p] = freeBefore;
            packing.poorOnTop[p] = poorBefore;
        }

        /** What goes in here would go in as well in a lower plot that is alike, and that way is tried first. */
        private boolean hasTwinAhead(int p, int roomInPlay) {
            for (int q = 0; q < p && q < MOST_PLOTS; q++) {
                boolean bothWide = free[q] >= roomInPlay && free[p] >= roomInPlay;
                if (bothWide || free[q] == free[p] && poorOnTop[q] == poorOnTop[p]) {
                    return true;
                }
            }
            return false;
        }

        private void choose(int won) {
            best = won;
            for (int h = 0; h < MOST_HOURS; h++) {
                chosen[h] = tried[h];
            }
        }
    }

    /** How likely an hour lies still, in lowest terms: upper by lower. */
    private static final class Odds {
        int upper;
        int lower;
        // In how many of all equal cases so many have been thrown out.
        private final int[] cases;

        Odds() {
            cases = new int[CHANCE_YEARS + 1];
        }

        void reckon(int visits, int x, int borne) {
            spread(visits, x);
            int still = 0;
            int all = 0;
            for (int thrown = 0; thrown <= CHANCE_YEARS; thrown++) {
                all += cases[thrown];
                if (thrown <= borne) {
                    still += cases[thrown];
                }
            }
            int common = commonDivisor(all, still);
            upper = common > 0 ? still / common : 0;
            lower = common > 0 ? all / common : 1;
        }

        private void spread(int visits, int x) {
            for (int thrown = 0; thrown <= CHANCE_YEARS; thrown++) {
                cases[thrown] = thrown == 0 ? 1 : 0;
            }
            for (int i = 0; i < visits; i++) {
                for (int thrown = CHANCE_YEARS; thrown > 0; thrown--) {
                    cases[thrown] = cases[thrown] * (10 - x) + cases[thrown - 1] * x;
                }
                cases[0] *= 10 - x;
            }
        }

        private static int commonDivisor(int a, int b) {
            int big = a;
            int small = b;
            // Euclid's way needs less than 50 steps for numbers of this size.
            for (int i = 0; i < 50 && small != 0; i++) {
                int rest = big % small;
                big = small;
                small = rest;
            }
            return big;
        }
    }
}
