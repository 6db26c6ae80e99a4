import java.util.ArrayDeque;
import java.util.ArrayList;
import java.util.Deque;
import java.util.HashSet;
import java.util.List;
import java.util.Set;
import java.util.regex.Matcher;
import java.util.regex.Pattern;

/** The document told once more, as slowly and plainly as can be, to hold the class against. */
final class SlowGreen {
    static final int BAD = -1, NO = -2, FULL = -3, NONE = -4;
    private static final Pattern ITEM = Pattern.compile(
        "(?:(g)(\\d\\d?)|(h)(\\d\\d?),(\\d\\d?),(\\d\\d?)|(w)(\\d\\d?),(\\d\\d?)|(f)(\\d\\d?));");

    private static final class State {
        List<Integer> rooms = new ArrayList<>();
        List<Integer> kinds = new ArrayList<>();
        List<Integer> worths = new ArrayList<>();
        List<List<Integer>> mounds = new ArrayList<>();
        Set<Integer> frost = new HashSet<>();
        int year;
        int stirred;

        State copy() {
            State s = new State();
            s.rooms.addAll(rooms);
            s.kinds.addAll(kinds);
            s.worths.addAll(worths);
            for (List<Integer> mound : mounds) {
                s.mounds.add(new ArrayList<>(mound));
            }
            s.frost.addAll(frost);
            s.year = year;
            s.stirred = stirred;
            return s;
        }

        int where(int h) {
            for (int p = 0; p < mounds.size(); p++) {
                if (mounds.get(p).contains(h)) {
                    return p;
                }
            }
            return NONE;
        }

        int need(List<Integer> mound, int i) {
            int kind = kinds.get(mound.get(i));
            if (kind == 2) {
                return i > 0 && kinds.get(mound.get(i - 1)) == 2 ? 0 : 1;
            }
            return kind == 1 ? 2 : 1;
        }

        int free(int p) {
            int left = rooms.get(p);
            for (int i = 0; i < mounds.get(p).size(); i++) {
                left -= need(mounds.get(p), i);
            }
            return left;
        }

        boolean fits(int h, int p) {
            List<Integer> mound = mounds.get(p);
            if (mound.contains(h) || !mound.isEmpty() && kinds.get(mound.get(mound.size() - 1)) == 3) {
                return false;
            }
            mound.add(h);
            boolean so = free(p) >= 0;
            mound.remove(mound.size() - 1);
            return so;
        }

        int year() {
            List<Integer> mound = mounds.get(year % mounds.size());
            year++;
            if (!mound.isEmpty()) {
                int kind = kinds.get(mound.get(mound.size() - 1));
                if (kind == 0 || kind == 2) {
                    mound.remove(mound.size() - 1);
                    return 1;
                }
            }
            return 0;
        }

        int years(int n) {
            int thrown = 0;
            for (int i = 0; i < n; i++) {
                thrown += year();
            }
            return thrown;
        }

        boolean put(int h, int p) {
            if (where(h) != NONE || !fits(h, p) || frost.contains(year)) {
                return false;
            }
            mounds.get(p).add(h);
            return true;
        }

        int up(int h) {
            List<Integer> mound = mounds.get(where(h));
            int moved = mound.size() - 1 - mound.indexOf(h);
            mound.remove(Integer.valueOf(h));
            stirred += moved;
            return moved;
        }

        Set<Integer> above(int h) {
            int p = where(h);
            if (p == NONE) {
                return new HashSet<>();
            }
            List<Integer> mound = mounds.get(p);
            return new HashSet<>(mound.subList(mound.indexOf(h) + 1, mound.size()));
        }

        int lying() {
            return mounds.stream().mapToInt(List::size).sum();
        }

        int worth() {
            return mounds.stream().flatMap(List::stream).mapToInt(worths::get).sum();
        }

        /** The best of all ways, each told as {worth, where hour 0 is, ..}; the first of several. */
        int[] pack(int h) {
            if (h == kinds.size()) {
                int[] way = new int[h + 1];
                for (int i = 0; i < h; i++) {
                    way[i + 1] = where(i);
                }
                way[0] = worth();
                return way;
            }
            if (where(h) != NONE) {
                return pack(h + 1);
            }
            int[] best = null;
            for (int p = 0; p < mounds.size(); p++) {
                if (fits(h, p)) {
                    mounds.get(p).add(h);
                    int[] way = pack(h + 1);
                    mounds.get(p).remove(mounds.get(p).size() - 1);
                    if (best == null || way[0] > best[0]) {
                        best = way;
                    }
                }
            }
            int[] left = pack(h + 1);
            return best == null || left[0] > best[0] ? left : best;
        }

        int[] packs() {
            int[] way = copy().pack(0);
            way[0] -= worth();
            return way;
        }
    }

    private final StringBuilder text = new StringBuilder();
    private State now;
    private final Deque<State> past = new ArrayDeque<>();
    private final Deque<State> kept = new ArrayDeque<>();
    private final List<int[]> sightings = new ArrayList<>();
    private State read;

    SlowGreen() {
        text.append("g4;g3;g5;h0,3,0;h1,7,0;h2,2,1;h2,4,1;h3,9,2;w0,5;w1,6;f2;");
        lay();
        text.setLength(0);
    }

    private static boolean in(int number, int least, int most) {
        return least <= number && number <= most;
    }

    private boolean plotIs(int p) {
        return in(p, 0, now.mounds.size() - 1);
    }

    private boolean hourIs(int h) {
        return in(h, 0, now.kinds.size() - 1);
    }

    int write(int letter) {
        if (!in(letter, 32, 126)) {
            return BAD;
        }
        if (text.length() == 200) {
            return FULL;
        }
        return text.append((char) letter).length();
    }

    int wipe() {
        int was = text.length();
        text.setLength(0);
        return was;
    }

    private boolean tell(Matcher m) {
        if (m.group(1) != null) {
            int d = Integer.parseInt(m.group(2));
            read.rooms.add(d);
            read.mounds.add(new ArrayList<>());
            return in(d, 1, 9) && read.rooms.size() <= 5;
        }
        if (m.group(10) != null) {
            read.frost.add(Integer.parseInt(m.group(11)));
            return in(Integer.parseInt(m.group(11)), 0, 39);
        }
        boolean lies = m.group(3) != null;
        int k = Integer.parseInt(m.group(lies ? 4 : 8));
        int v = Integer.parseInt(m.group(lies ? 5 : 9));
        int h = read.kinds.size();
        if (!in(k, 0, 3) || !in(v, 1, 20) || h == 7) {
            return false;
        }
        read.kinds.add(k);
        read.worths.add(v);
        if (lies) {
            int p = Integer.parseInt(m.group(6));
            if (p >= read.mounds.size() || !read.fits(h, p)) {
                return false;
            }
            read.mounds.get(p).add(h);
        }
        return true;
    }

    int fault() {
        read = new State();
        int at = 0;
        Matcher m = ITEM.matcher(text);
        while (at < text.length()) {
            m.region(at, text.length());
            if (!m.lookingAt() || !tell(m)) {
                return at;
            }
            at = m.end();
        }
        return NONE;
    }

    int lay() {
        if (fault() != NONE || read.mounds.isEmpty() || read.kinds.isEmpty()) {
            return NO;
        }
        now = read;
        past.clear();
        kept.clear();
        sightings.clear();
        return now.kinds.size();
    }

    int plot(int p, int what) {
        if (!plotIs(p) || !in(what, 0, 3)) {
            return BAD;
        }
        List<Integer> mound = now.mounds.get(p);
        int top = mound.isEmpty() ? NONE : mound.get(mound.size() - 1);
        return new int[] {now.rooms.get(p), now.free(p), mound.size(), top}[what];
    }

    int hour(int h, int what) {
        if (!hourIs(h) || !in(what, 0, 4)) {
            return BAD;
        }
        int p = now.where(h);
        int beneath = p == NONE ? NONE : now.mounds.get(p).indexOf(h);
        int need = p == NONE ? NONE : now.need(now.mounds.get(p), beneath);
        return new int[] {now.kinds.get(h), now.worths.get(h), p, beneath, need}[what];
    }

    int fits(int h, int p) {
        return !hourIs(h) || !plotIs(p) ? BAD : now.fits(h, p) ? 1 : 0;
    }

    private void act() {
        past.push(now.copy());
        if (past.size() > 8) {
            past.removeLast();
        }
    }

    int pass(int n) {
        if (!in(n, 1, 20)) {
            return BAD;
        }
        if (now.year + n > 999) {
            return NO;
        }
        act();
        return now.years(n);
    }

    int put(int h, int p) {
        if (!hourIs(h) || !plotIs(p)) {
            return BAD;
        }
        if (!now.copy().put(h, p)) {
            return NO;
        }
        act();
        now.put(h, p);
        return now.free(p);
    }

    int up(int h) {
        if (!hourIs(h)) {
            return BAD;
        }
        if (now.where(h) == NONE) {
            return NO;
        }
        act();
        return now.up(h);
    }

    int dig(int p) {
        if (!plotIs(p)) {
            return BAD;
        }
        if (now.rooms.get(p) == 9) {
            return NO;
        }
        act();
        now.rooms.set(p, now.rooms.get(p) + 1);
        return now.rooms.get(p);
    }

    int undo() {
        if (past.isEmpty()) {
            return NO;
        }
        now = past.pop();
        return past.size();
    }

    private State after(int n) {
        State s = now.copy();
        s.years(n);
        return s;
    }

    int out(int h) {
        if (!hourIs(h)) {
            return BAD;
        }
        for (int n = 0; n <= 60; n++) {
            if (after(n).where(h) == NONE) {
                return n;
            }
        }
        return NONE;
    }

    int behind(int n, int h) {
        return !in(n, 0, 60) || !hourIs(h) ? BAD : after(n).where(h);
    }

    int above(int h) {
        return !hourIs(h) ? BAD : now.above(h).stream().mapToInt(o -> 1 << o).sum();
    }

    int packs(int h) {
        return h != -1 && !hourIs(h) ? BAD : now.packs()[h + 1];
    }

    private Set<Integer> hoursOf(int set) {
        Set<Integer> hours = new HashSet<>();
        for (int h = 0; h < 7; h++) {
            if ((set & 1 << h) != 0) {
                hours.add(h);
            }
        }
        return hours;
    }

    int stir(int set) {
        if (!in(set, 0, (1 << now.kinds.size()) - 1)) {
            return BAD;
        }
        Set<Integer> others = new HashSet<>();
        for (int h : hoursOf(set)) {
            if (now.where(h) == NONE) {
                return NO;
            }
            others.addAll(now.above(h));
        }
        others.removeAll(hoursOf(set));
        return others.size();
    }

    int cheap(int v, int what) {
        if (!in(v, 1, 140) || !in(what, 0, 1)) {
            return BAD;
        }
        int[] best = null;
        for (int set = 0; set < 1 << now.kinds.size(); set++) {
            int stirred = stir(set);
            int worth = hoursOf(set).stream().mapToInt(now.worths::get).sum();
            if (stirred == NO || worth < v) {
                continue;
            }
            int size = hoursOf(set).size();
            if (best == null || stirred < best[1] || stirred == best[1] && size < best[2]) {
                best = new int[] {set, stirred, size};
            }
        }
        return best == null ? NONE : best[what];
    }

    int deeper(int what) {
        if (!in(what, 0, 1)) {
            return BAD;
        }
        int[] best = {NONE, NONE};
        for (int p = now.mounds.size() - 1; p >= 0; p--) {
            if (now.rooms.get(p) < 9) {
                State dug = now.copy();
                dug.rooms.set(p, dug.rooms.get(p) + 1);
                int much = dug.packs()[0];
                if (much >= best[1]) {
                    best = new int[] {p, much};
                }
            }
        }
        return best[what];
    }

    int years(int n) {
        return !in(n, 1, 20) ? BAD : now.copy().years(n);
    }

    int seen(int n, int h, int is) {
        if (!in(n, 0, 20) || !hourIs(h) || !in(is, 0, 1)) {
            return BAD;
        }
        if (sightings.size() == 6) {
            return FULL;
        }
        sightings.add(new int[] {n, h, is});
        return sightings.size();
    }

    int forget() {
        int were = sightings.size();
        sightings.clear();
        return were;
    }

    private boolean allSo(State s) {
        for (int[] one : sightings) {
            State then = s.copy();
            then.years(one[0]);
            if ((then.where(one[1]) == NONE) != (one[2] == 1)) {
                return false;
            }
        }
        return true;
    }

    int plots(int h) {
        if (!hourIs(h)) {
            return BAD;
        }
        int bits = 0;
        for (int p = 0; p < now.mounds.size(); p++) {
            State s = now.copy();
            for (List<Integer> mound : s.mounds) {
                mound.remove(Integer.valueOf(h));
            }
            s.mounds.get(p).add(h);
            bits += allSo(s) ? 1 << p : 0;
        }
        return bits;
    }

    int kinds(int h) {
        if (!hourIs(h)) {
            return BAD;
        }
        int bits = 0;
        for (int k = 0; k < 4; k++) {
            State s = now.copy();
            s.kinds.set(h, k);
            bits += allSo(s) ? 1 << k : 0;
        }
        return bits;
    }

    /** In how many of ten to the n cases the hour has lain there all the time. */
    private static long still(State s, int h, int n, int x) {
        if (s.where(h) == NONE) {
            return 0;
        }
        if (n == 0) {
            return 1;
        }
        State come = s.copy();
        come.year();
        State stay = s.copy();
        stay.year++;
        return x * still(come, h, n - 1, x) + (10 - x) * still(stay, h, n - 1, x);
    }

    int likely(int h, int n, int x, int part) {
        if (!hourIs(h) || !in(n, 0, 8) || !in(x, 0, 10) || !in(part, 0, 1)) {
            return BAD;
        }
        if (now.where(h) == NONE) {
            return NO;
        }
        long upper = still(now, h, n, x);
        long lower = Math.round(Math.pow(10, n));
        for (int by : new int[] {2, 5}) {
            while (lower % by == 0 && upper % by == 0) {
                lower /= by;
                upper /= by;
            }
        }
        return (int) (part == 0 ? upper : lower);
    }

    int decade(int z, int n, int what) {
        if (!in(z, 0, 9999) || !in(n, 1, 60) || !in(what, 0, 2)) {
            return BAD;
        }
        State s = now.copy();
        int before = s.stirred;
        for (int i = 0; i < n; i++) {
            long x = 7919L * z + 6151L * i + 1;
            int draw = (int) (x * x % 65521) / 2;
            int h = draw % s.kinds.size();
            if (s.where(h) == NONE) {
                s.put(h, draw / 8 % s.mounds.size());
            } else if (draw / 64 % 4 == 0) {
                s.up(h);
            }
            s.year();
        }
        return new int[] {s.lying(), s.worth(), s.stirred - before}[what];
    }

    int keep() {
        if (kept.size() == 2) {
            return FULL;
        }
        kept.push(now.copy());
        return kept.size();
    }

    int back() {
        if (kept.isEmpty()) {
            return NO;
        }
        now = kept.pop();
        past.clear();
        return kept.size();
    }

    int count(int what) {
        if (!in(what, 0, 10)) {
            return BAD;
        }
        return new int[] {now.mounds.size(), now.kinds.size(), now.year, now.lying(), now.worth(),
            now.frost.contains(now.year) ? 1 : 0, now.stirred, sightings.size(), past.size(), kept.size(),
            text.length()}[what];
    }
}
