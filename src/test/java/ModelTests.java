import java.util.ArrayList;
import java.util.HashMap;
import java.util.List;
import java.util.Map;
import java.util.regex.Matcher;
import java.util.regex.Pattern;

/**
 * Runs of calls on GumHall and on a simple-minded model of the document, which plays every night
 * with every thing that might have been, and every set of sittings, one by one.
 */
public final class ModelTests {
    private static final int RUNS = 1500, CALLS = 512;
    private static final long SKIP = Long.MIN_VALUE + 1;

    public static void main(String[] args) {
        long answers = 0;
        for (int run = 0; run < RUNS; run++) {
            Run r = new Run(run);
            for (int call = 0; call < CALLS; call++) {
                if (!r.oneCall()) {
                    System.out.println("run " + run + ": " + String.join(" ", r.history));
                    System.exit(1);
                }
                answers++;
            }
        }
        System.out.println("ModelTests: " + answers + " answers as due in " + RUNS + " runs");
    }

    /** A fixed series of numbers, the same for the same seed. */
    private static final class Dice {
        private long state;
        // How seldom a number stands outside: in some runs often, so that refusals and faults meet.
        private final int seldom;

        Dice(long seed) {
            state = seed * 0x9E3779B97F4A7C15L + 1;
            seldom = seed % 3 == 0 ? 12 : 60;
        }

        int below(int n) {
            state = state * 6364136223846793005L + 1442695040888963407L;
            return (int) ((state >>> 33) % n);
        }

        /** Mostly 0 .. n - 1, now and then just outside, seldom far outside. */
        int around(int n) {
            int r = below(seldom);
            if (r == 0) return -1;
            if (r == 1) return n;
            if (r == 2) return below(2) == 0 ? Integer.MIN_VALUE : Integer.MAX_VALUE;
            return below(n);
        }
    }

    private static final class Run {
        private final Dice dice;
        private final GumHall x = new GumHall();
        private final Model m = new Model();
        final List<String> history = new ArrayList<>();
        // Few nights make sittings, moves, scrapes and readings meet; some runs have them all.
        private final int nights;
        private final int texts;
        private List<Integer> pending = new ArrayList<>();
        private int pendingLane;

        Run(int seed) {
            dice = new Dice(seed);
            nights = new int[] {4, 8, 15, 40}[dice.below(4)];
            texts = dice.below(3) == 0 ? 20 : 400;
        }

        private boolean same(String call, long got, long want) {
            history.add(call + "=" + got);
            if (want == SKIP || got == want) return true;
            history.add("due is " + want);
            return false;
        }

        private int person() {
            return dice.around(Math.max(1, m.kinds.size()));
        }

        private int place() {
            return dice.around(Math.max(1, m.places));
        }

        private int night() {
            return dice.below(20) == 0 ? dice.around(40) : dice.below(nights);
        }

        private int lane(int k) {
            return k >= 0 && k < 4 && dice.below(12) > 0 ? Math.max(0, m.laneOf(k)) : dice.around(3);
        }

        boolean oneCall() {
            if (!pending.isEmpty()) {
                int v = pending.remove(0);
                int i = m.lengthOf(3) - pending.size() - 1;
                return same("put(3," + i + "," + v + ")", x.put(3, i, v), m.put(3, i, v));
            }
            if (dice.below(texts) == 0 || m.kinds.isEmpty() && dice.below(3) == 0) return begin();
            switch (dice.below(5)) {
                case 0: return nightsCall();
                case 1: return asked();
                case 2: return cleaner();
                case 3: return dice.below(2) == 0 ? sheets() : nightsCall();
                default: return dice.below(2) == 0 ? people() : cleaner();
            }
        }

        private boolean begin() {
            if (m.lengthOf(3) >= 5 && dice.below(2) == 0) {
                int n = dice.below(10) == 0 ? dice.around(20) : m.lengthOf(3);
                int i = dice.below(20) == 0 ? dice.around(3) : 0;
                int lane = lane(3);
                return same("hall(3," + lane + "," + i + "," + n + ")", x.hall(3, lane, i, n), m.hall(3, lane, i, n));
            }
            StringBuilder text = new StringBuilder("h").append(2 + dice.below(5));
            int many = 1 + dice.below(5) + (dice.below(20) == 0 ? 1 : 0);
            for (int p = 0; p < many; p++) text.append(';').append("sfb".charAt(dice.below(3))).append(dice.below(4));
            if (dice.below(6) == 0) text.setCharAt(dice.below(text.length()), "h;s27b4f\u00ff".charAt(dice.below(9)));
            for (int i = 0; i < text.length(); i++) pending.add((int) text.charAt(i));
            pendingLane = dice.below(3);
            int n = text.length();
            return same("sheet(3," + pendingLane + "," + n + ")", x.sheet(3, pendingLane, n), m.sheet(3, pendingLane, n));
        }

        private boolean nightsCall() {
            int night = night();
            int place = place();
            switch (dice.below(30)) {
                case 0: { int k = dice.around(5); return same("rise(" + k + ")", x.rise(k), m.rise(k)); }
                case 1: { int k = dice.around(4); return same("unmove(" + k + ")", x.unmove(k), m.unmove(k)); }
                case 2: { int k = dice.around(4); return same("unscrape(" + k + ")", x.unscrape(k), m.unscrape(k)); }
                case 3: case 4: case 5: {
                    int b = place();
                    return same("move(" + place + "," + b + "," + night + ")", x.move(place, b, night), m.move(place, b, night));
                }
                case 6: case 7:
                    return same("scrape(" + place + "," + night + ")", x.scrape(place, night), m.scrape(place, night));
                default: {
                    int p = person();
                    return same("sit(" + p + "," + place + "," + night + ")", x.sit(p, place, night), m.sit(p, place, night));
                }
            }
        }

        private boolean asked() {
            int night = night();
            int place = place();
            int p = person();
            switch (dice.below(6)) {
                case 0: return same("layers(" + place + "," + night + ")", x.layers(place, night), m.layers(place, night));
                case 1: return same("chair(" + place + "," + night + ")", x.chair(place, night), m.chair(place, night));
                case 2: {
                    int what = dice.around(2);
                    return same("ofPerson(" + p + "," + what + ")", x.ofPerson(p, what), m.ofPerson(p, what));
                }
                case 3: return same("gum(" + p + "," + night + ")", x.gum(p, night), m.gum(p, night));
                default: {
                    int k = dice.around(4);
                    int what = dice.around(2);
                    return same("under(" + place + "," + night + "," + k + "," + what + ")",
                        x.under(place, night, k, what), m.under(place, night, k, what));
                }
            }
        }

        private boolean people() {
            int p = person();
            int night = night();
            switch (dice.below(9)) {
                case 0: { int q = person(); return same("beside(" + p + "," + q + ")", x.beside(p, q), m.beside(p, q)); }
                case 1: { int w = dice.around(2); return same("habit(" + p + "," + w + ")", x.habit(p, w), m.habit(p, w)); }
                case 2: { int g = dice.around(8); return same("makers(" + g + "," + night + ")", x.makers(g, night), m.makers(g, night)); }
                case 3: return same("tell(" + p + ")", x.tell(p), m.tell(p));
                case 4: return same("greet(" + p + ")", x.greet(p), m.greet(p));
                case 5: { int k = dice.around(3); return same("as(" + p + "," + k + ")", x.as(p, k), m.as(p, k)); }
                case 6: return same("trace()", x.trace(), m.trace);
                case 7: return same("fault()", x.fault(), m.fault);
                default: { int w = dice.around(6); return same("many(" + w + ")", x.many(w), m.many(w)); }
            }
        }

        private boolean cleaner() {
            int night = night();
            int place = place();
            switch (dice.below(12)) {
                case 0: case 1: return reading(place, night);
                case 2: { int k = dice.around(9); return same("back(" + k + ")", x.back(k), m.back(k)); }
                case 3: case 4: return same("sat(" + place + "," + night + ")", x.sat(place, night), m.sat(place, night));
                case 5: case 6: return same("moved(" + night + ")", x.moved(night), m.moved(night));
                case 7: return same("scraped(" + night + ")", x.scraped(night), m.scraped(night));
                case 8: return same("never()", x.never(), m.never());
                case 9: {
                    int v = dice.around(dice.below(4) == 0 ? 25 : 6);
                    int which = dice.around(2);
                    return same("odds(" + place + "," + night + "," + v + "," + which + ")",
                        x.odds(place, night, v, which), m.odds(place, night, v, which));
                }
                default: {
                    int end = night();
                    int what = dice.around(2);
                    return same("look(" + night + "," + end + "," + what + ")", x.look(night, end, what), m.look(night, end, what));
                }
            }
        }

        /** Mostly what lies there, or nearly, so that readings can be so. */
        private boolean reading(int place, int night) {
            int k = dice.around(dice.below(3) == 0 ? 10 : 3);
            int gum = dice.below(12) == 0 ? dice.around(10) : dice.below(3) == 0 ? dice.below(8) : 9;
            if (dice.below(2) == 0 && m.isPlace(place) && m.isNight(night)) {
                List<Integer> there = m.gumsAt(place, night, m.sittings, m.moves, m.scrapes);
                k = there.isEmpty() ? 0 : dice.below(Math.min(10, there.size() + 1));
                gum = k < there.size() ? there.get(k) : 9;
            }
            return same("reading(" + place + "," + night + "," + k + "," + gum + ")",
                x.reading(place, night, k, gum), m.reading(place, night, k, gum));
        }

        private boolean sheets() {
            int k = dice.around(4);
            int i = dice.around(dice.below(2) == 0 ? 4 : 12);
            switch (dice.below(9)) {
                case 0: {
                    int lane = dice.around(3);
                    int n = dice.around(dice.below(2) == 0 ? 12 : 61);
                    return same("sheet(" + k + "," + lane + "," + n + ")", x.sheet(k, lane, n), m.sheet(k, lane, n));
                }
                case 1: return dice.below(3) > 0 || same("lose(" + k + ")", x.lose(k), m.lose(k));
                case 2: case 3: case 4: {
                    int v = dice.below(6) == 0 ? dice.below(Integer.MAX_VALUE) * 2 : dice.below(4);
                    return same("put(" + k + "," + i + "," + v + ")", x.put(k, i, v), m.put(k, i, v));
                }
                case 5: { int lane = lane(k); return same("cell(" + k + "," + i + "," + lane + ")", x.cell(k, i, lane), m.cell(k, i, lane)); }
                case 6: {
                    int other = dice.around(4);
                    int j = dice.around(4);
                    int n = dice.around(6);
                    return same("copy(" + k + "," + i + "," + other + "," + j + "," + n + ")",
                        x.copy(k, i, other, j, n), m.copy(k, i, other, j, n));
                }
                default: {
                    int lane = lane(k);
                    int n = dice.around(dice.below(8) == 0 ? 21 : 5);
                    return same("judge(" + k + "," + lane + "," + i + "," + n + ")", x.judge(k, lane, i, n), m.judge(k, lane, i, n));
                }
            }
        }
    }

    /** The document, word by word. Things are rows: {person, place, night}, {a, b, night}, {place, night}, ... */
    private static final class Model {
        private static final int UNKNOWN = -1, OUTSIDE = -2, STATE = -3, FULL = -4, NONE = -9;
        private static final long LOST = Long.MIN_VALUE;
        private static final Pattern TEXT = Pattern.compile("h[2-6](;[sfb][0-3]){1,5}", Pattern.DOTALL);

        int places = 0;
        List<Integer> kinds = new ArrayList<>();
        List<Integer> flavours = new ArrayList<>();
        List<int[]> sittings = new ArrayList<>();
        List<int[]> moves = new ArrayList<>();
        List<int[]> scrapes = new ArrayList<>();
        List<int[]> readings = new ArrayList<>();
        final Object[] sheets = new Object[4];
        int trace = 0;
        int fault = 0;

        boolean isPerson(int p) { return p >= 0 && p < kinds.size(); }
        boolean isPlace(int q) { return q >= 0 && q < places; }
        boolean isNight(int n) { return n >= 0 && n < 40; }
        boolean isSheet(int k) { return k >= 0 && k < 4; }

        int laneOf(int k) {
            if (sheets[k] instanceof byte[]) return 0;
            if (sheets[k] instanceof short[]) return 1;
            return sheets[k] instanceof int[] ? 2 : -1;
        }

        int lengthOf(int k) {
            return sheets[k] == null ? -1 : java.lang.reflect.Array.getLength(sheets[k]);
        }

        private int fails(int f) {
            fault = f;
            return -10 - f;
        }

        // ---- sheets

        int sheet(int k, int lane, int n) {
            fault = 0;
            if (!isSheet(k)) return UNKNOWN;
            if (lane < 0 || lane > 2 || n > 60) return OUTSIDE;
            if (n < 0) return fails(4);
            sheets[k] = lane == 0 ? new byte[n] : lane == 1 ? (Object) new short[n] : new int[n];
            return 1;
        }

        int lose(int k) {
            if (!isSheet(k)) return UNKNOWN;
            int had = sheets[k] == null ? 0 : 1;
            sheets[k] = null;
            return had;
        }

        int put(int k, int i, int v) {
            fault = 0;
            if (!isSheet(k)) return UNKNOWN;
            if (sheets[k] == null) return fails(1);
            if (i < 0 || i >= lengthOf(k)) return fails(3);
            if (sheets[k] instanceof byte[]) ((byte[]) sheets[k])[i] = (byte) v;
            if (sheets[k] instanceof short[]) ((short[]) sheets[k])[i] = (short) v;
            if (sheets[k] instanceof int[]) ((int[]) sheets[k])[i] = v;
            return 1;
        }

        long cell(int k, int i, int lane) {
            fault = 0;
            if (!isSheet(k) || lane < 0 || lane > 2) return LOST;
            if (sheets[k] != null && laneOf(k) != lane) fault = 2;
            else if (sheets[k] == null) fault = 1;
            else if (i < 0 || i >= lengthOf(k)) fault = 3;
            return fault != 0 ? LOST : at(k, i);
        }

        private int at(int k, int i) {
            return java.lang.reflect.Array.getInt(sheets[k], i);
        }

        int copy(int k, int i, int other, int j, int n) {
            fault = 0;
            if (!isSheet(k) || !isSheet(other)) return UNKNOWN;
            if (sheets[k] == null || sheets[other] == null) return fails(1);
            if (laneOf(k) != laneOf(other)) return fails(2);
            if (i < 0 || j < 0 || n < 0 || (long) i + n > lengthOf(k) || (long) j + n > lengthOf(other)) return fails(3);
            int[] taken = new int[n];
            for (int t = 0; t < n; t++) taken[t] = at(k, i + t);
            for (int t = 0; t < n; t++) put(other, j + t, taken[t]);
            return n;
        }

        // ---- the hall

        int hall(int k, int lane, int i, int n) {
            fault = 0;
            if (!isSheet(k)) return UNKNOWN;
            if (lane < 0 || lane > 2) return OUTSIDE;
            if (sheets[k] != null && laneOf(k) != lane) return fails(2);
            if (sheets[k] == null) return fails(1);
            if (n < 0) return fails(4);
            if (i < 0 || (long) i + n > lengthOf(k)) return fails(3);
            StringBuilder codes = new StringBuilder();
            for (int t = 0; t < n; t++) codes.append(at(k, i + t) < 0 || at(k, i + t) > 255 ? '?' : (char) at(k, i + t));
            for (int t = 0; t < n; t++) {
                Matcher begin = TEXT.matcher(codes.substring(0, t + 1));
                if (!begin.matches() && !begin.hitEnd()) return -100 - t;
            }
            if (!TEXT.matcher(codes).matches()) return -100 - n;
            places = codes.charAt(1) - '0';
            kinds.clear();
            flavours.clear();
            for (String one : codes.substring(3).split(";")) {
                kinds.add("sfb".indexOf(one.charAt(0)));
                flavours.add(one.charAt(1) - '0');
            }
            sittings.clear();
            moves.clear();
            scrapes.clear();
            readings.clear();
            return kinds.size();
        }

        int ofPerson(int p, int what) {
            if (!isPerson(p)) return UNKNOWN;
            if (what < 0 || what > 1) return OUTSIDE;
            return (what == 0 ? kinds : flavours).get(p);
        }

        int gum(int p, int night) {
            if (!isPerson(p)) return UNKNOWN;
            if (!isNight(night)) return OUTSIDE;
            int flavour = flavours.get(p);
            if (kinds.get(p) == 0) return flavour;
            for (int t = 10; t <= night; t += 10) flavour = flavour == 3 ? 0 : flavour + 1;
            return kinds.get(p) == 1 ? flavour : flavour + 4;
        }

        // ---- nights

        private boolean maySit(int p, int place, int night) {
            for (int[] s : sittings) if (s[2] == night && (s[0] == p || s[1] == place)) return false;
            return true;
        }

        private static int add(List<int[]> list, int most, int... row) {
            if (list.size() >= most) return FULL;
            list.add(row);
            return list.size() - 1;
        }

        private static int cut(List<int[]> list, int k) {
            if (k < 0 || k > list.size()) return OUTSIDE;
            for (int t = 0; t < k; t++) list.remove(list.size() - 1);
            return list.size();
        }

        int sit(int p, int place, int night) {
            if (!isPerson(p) || !isPlace(place)) return UNKNOWN;
            if (!isNight(night)) return OUTSIDE;
            return maySit(p, place, night) ? add(sittings, 24, p, place, night) : STATE;
        }

        int move(int a, int b, int night) {
            if (!isPlace(a) || !isPlace(b) || a == b) return UNKNOWN;
            return isNight(night) ? add(moves, 6, a, b, night) : OUTSIDE;
        }

        int scrape(int place, int night) {
            if (!isPlace(place)) return UNKNOWN;
            return isNight(night) ? add(scrapes, 6, place, night) : OUTSIDE;
        }

        int rise(int k) { return cut(sittings, k); }
        int unmove(int k) { return cut(moves, k); }
        int unscrape(int k) { return cut(scrapes, k); }
        int back(int k) { return cut(readings, k); }

        /** Chairs by places; the first number of each is the chair, the rest its sittings. */
        private List<List<Integer>> play(int end, List<int[]> sat, List<int[]> moved, List<int[]> scraped) {
            List<List<Integer>> row = new ArrayList<>();
            for (int c = 0; c < places; c++) row.add(new ArrayList<>(List.of(c)));
            for (int night = 0; night <= end; night++) {
                for (int[] s : scraped) if (s[1] == night) row.set(s[0], new ArrayList<>(row.get(s[0]).subList(0, 1)));
                for (int[] v : moved) {
                    if (v[2] != night) continue;
                    List<Integer> kept = row.get(v[0]);
                    row.set(v[0], row.get(v[1]));
                    row.set(v[1], kept);
                }
                for (int s = 0; s < sat.size(); s++) if (sat.get(s)[2] == night) row.get(sat.get(s)[1]).add(s);
            }
            return row;
        }

        List<Integer> gumsAt(int place, int night, List<int[]> sat, List<int[]> moved, List<int[]> scraped) {
            return gumsOf(play(night, sat, moved, scraped).get(place), sat);
        }

        private List<Integer> gumsOf(List<Integer> chair, List<int[]> sat) {
            List<Integer> gums = new ArrayList<>();
            for (int s : chair.subList(1, chair.size())) gums.add(gum(sat.get(s)[0], sat.get(s)[2]));
            return gums;
        }

        int layers(int place, int night) {
            if (!isPlace(place)) return UNKNOWN;
            if (!isNight(night)) return OUTSIDE;
            return gumsAt(place, night, sittings, moves, scrapes).size();
        }

        int under(int place, int night, int k, int what) {
            if (!isPlace(place) || k < 0) return UNKNOWN;
            if (!isNight(night) || what < 0 || what > 1) return OUTSIDE;
            List<Integer> chair = play(night, sittings, moves, scrapes).get(place);
            if (k >= chair.size() - 1) return NONE;
            return what == 1 ? chair.get(k + 1) : gumsOf(chair, sittings).get(k);
        }

        int chair(int place, int night) {
            if (!isPlace(place)) return UNKNOWN;
            if (!isNight(night)) return OUTSIDE;
            return play(night, sittings, moves, scrapes).get(place).get(0);
        }

        // ---- people

        int beside(int p, int other) {
            if (!isPerson(p) || !isPerson(other) || p == other) return UNKNOWN;
            int nights = 0;
            for (int[] s : sittings) {
                for (int[] t : sittings) {
                    boolean next = s[1] == t[1] + 1 || t[1] == s[1] + 1;
                    if (s[0] == p && t[0] == other && s[2] == t[2] && next) nights++;
                }
            }
            return nights;
        }

        int habit(int p, int what) {
            if (!isPerson(p)) return UNKNOWN;
            if (what < 0 || what > 1) return OUTSIDE;
            int[] often = new int[6];
            int most = 0;
            for (int[] s : sittings) if (s[0] == p) most = Math.max(most, ++often[s[1]]);
            if (what == 1) return most;
            for (int q = 0; q < 6; q++) if (most > 0 && often[q] == most) return q;
            return NONE;
        }

        int makers(int gum, int night) {
            if (gum < 0 || gum > 7 || !isNight(night)) return OUTSIDE;
            if (places == 0) return STATE;
            int set = 0;
            for (int p = 0; p < kinds.size(); p++) if (gum(p, night) == gum) set += 1 << p;
            return set;
        }

        int judge(int k, int lane, int i, int n) {
            fault = 0;
            if (!isSheet(k)) return UNKNOWN;
            if (lane < 0 || lane > 2 || n < 0 || n > 20) return OUTSIDE;
            if (places == 0) return STATE;
            if (sheets[k] != null && laneOf(k) != lane) return fails(2);
            if (sheets[k] == null) return fails(1);
            if (i < 0 || (long) i + 3 * n > lengthOf(k)) return fails(3);
            List<int[]> said = new ArrayList<>(sittings);
            for (int c = 0; c < n; c++) said.add(new int[] {at(k, i + 3 * c), at(k, i + 3 * c + 1), at(k, i + 3 * c + 2)});
            for (int[] s : said) if (!isPerson(s[0]) || !isPlace(s[1]) || !isNight(s[2])) return OUTSIDE;
            for (int c = 0; c < n; c++) {
                int[] claim = said.get(sittings.size() + c);
                for (int[] s : said.subList(0, sittings.size() + c)) {
                    if (s[2] != claim[2]) continue;
                    if (s[0] == claim[0] && s[1] != claim[1]) return c;
                    if (s[0] != claim[0] && s[1] == claim[1]) return c;
                }
            }
            return NONE;
        }

        // ---- what a cleaner found

        int reading(int place, int night, int k, int gum) {
            if (!isPlace(place)) return UNKNOWN;
            if (!isNight(night) || k < 0 || k > 9 || gum < 0 || gum == 8 || gum > 9) return OUTSIDE;
            return add(readings, 8, place, night, k, gum);
        }

        private boolean allSo(List<int[]> sat, List<int[]> moved, List<int[]> scraped) {
            for (int[] r : readings) {
                List<Integer> gums = gumsAt(r[0], r[1], sat, moved, scraped);
                int found = r[2] < gums.size() ? gums.get(r[2]) : 9;
                if (found != r[3]) return false;
            }
            return true;
        }

        private static List<int[]> with(List<int[]> list, int at, int... row) {
            List<int[]> more = new ArrayList<>(list);
            more.add(at, row);
            return more;
        }

        int sat(int place, int night) {
            if (!isPlace(place)) return UNKNOWN;
            if (!isNight(night)) return OUTSIDE;
            int set = 0;
            for (int p = 0; p < kinds.size(); p++) {
                boolean so = allSo(with(sittings, sittings.size(), p, place, night), moves, scrapes);
                if (so && maySit(p, place, night)) set += 1 << p;
            }
            return set;
        }

        int moved(int night) {
            if (!isNight(night)) return OUTSIDE;
            if (places == 0) return STATE;
            for (int pair = 0; pair < 60; pair++) {
                int a = pair / 10;
                int b = pair % 10;
                if (a < b && b < places && allSo(sittings, with(moves, moves.size(), a, b, night), scrapes)) return pair;
            }
            return NONE;
        }

        int scraped(int night) {
            if (!isNight(night)) return OUTSIDE;
            if (places == 0) return STATE;
            int set = 0;
            for (int q = 0; q < places; q++) if (allSo(sittings, moves, with(scrapes, 0, q, night))) set += 1 << q;
            return set;
        }

        int never() {
            if (places == 0) return STATE;
            int set = 0;
            for (int s = 0; s < sittings.size(); s++) {
                List<int[]> less = new ArrayList<>(sittings);
                less.remove(s);
                if (allSo(less, moves, scrapes)) set += 1 << s;
            }
            return set;
        }

        int look(int night, int end, int what) {
            if (!isNight(night) || !isNight(end) || what < 0 || what > 1) return OUTSIDE;
            if (places == 0) return STATE;
            int best = 0;
            int least = Integer.MAX_VALUE;
            for (int q = 0; q < places; q++) {
                int greatest = greatestGroup(q, night, end);
                if (greatest < least) {
                    best = q;
                    least = greatest;
                }
            }
            return what == 0 ? best : least;
        }

        private int greatestGroup(int q, int night, int end) {
            Map<List<Integer>, Integer> groups = new HashMap<>();
            int greatest = 0;
            for (int p = 0; p < kinds.size(); p++) {
                for (int place = 0; place < places; place++) {
                    if (!maySit(p, place, night)) continue;
                    List<int[]> more = with(sittings, sittings.size(), p, place, night);
                    greatest = Math.max(greatest, groups.merge(gumsAt(q, end, more, moves, scrapes), 1, Integer::sum));
                }
            }
            return greatest;
        }

        // ---- odds, parts

        long odds(int place, int night, int v, int which) {
            if (!isPlace(place) || !isNight(night) || v < 0 || v > 24 || which < 0 || which > 1) return LOST;
            if (sittings.size() > 9) return SKIP;
            int all = 1 << sittings.size();
            int just = 0;
            for (int set = 0; set < all; set++) {
                List<int[]> some = new ArrayList<>();
                for (int s = 0; s < sittings.size(); s++) if ((set >> s & 1) == 1) some.add(sittings.get(s));
                if (gumsAt(place, night, some, moves, scrapes).size() == v) just++;
            }
            int common = java.math.BigInteger.valueOf(just).gcd(java.math.BigInteger.valueOf(all)).intValue();
            return (which == 0 ? just : all) / common;
        }

        int tell(int p) {
            if (!isPerson(p)) return UNKNOWN;
            int[][] bodies = {{1}, {2, 1}, {3, 2, 1, 1}};
            for (int body : bodies[kinds.get(p)]) trace = trace * 31 + body;
            int f = flavours.get(p);
            return new int[] {f, f + 100, 2 * f + 100}[kinds.get(p)];
        }

        int greet(int p) {
            if (!isPerson(p)) return UNKNOWN;
            boolean own = kinds.get(p) == 2;
            trace = trace * 31 + (own ? 5 : 4);
            return own ? 70 : p;
        }

        int as(int p, int kind) {
            fault = 0;
            if (!isPerson(p)) return UNKNOWN;
            if (kind < 0 || kind > 2) return OUTSIDE;
            return kinds.get(p) >= kind ? 1 : fails(2);
        }

        int many(int what) {
            switch (what) {
                case 0: return kinds.size();
                case 1: return places;
                case 2: return sittings.size();
                case 3: return moves.size();
                case 4: return scrapes.size();
                case 5: return readings.size();
                default: return OUTSIDE;
            }
        }
    }
}
