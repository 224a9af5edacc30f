import java.util.Arrays;

/**
 * A row of chairs in a cinema, the people who sat there, and the gum they left.
 *
 * <p>Nothing here throws: every refusal and every fault is an answer.
 */
public final class GumHall {
    public static final int UNKNOWN = -1, OUTSIDE = -2, STATE = -3, FULL = -4, NONE = -9;
    public static final long LOST = Long.MIN_VALUE;

    private static final int NULL = 1, CAST = 2, INDEX = 3, SIZE = 4;
    private static final int MOST_PERSONS = 5, MOST_PLACES = 6, NIGHTS = 40, GUMS = 8;
    private static final int MOST_SITTINGS = 24, MOST_CLAIMS = 20, CLAIM = 3;
    private static final int MOST_LAYER = 9, NOT_THERE = 9;
    private static final int SHEETS = 4, LANES = 3, MOST_CELLS = 60;
    private static final int TEXT_HEAD = 2, TEXT_PERSON = 3;

    private final Sheet[] sheets = new Sheet[SHEETS];
    private final Sitter[] persons = new Sitter[MOST_PERSONS];
    private final int[] tally = new int[GUMS];
    private final Story story = new Story();
    private final Chairs chairs = new Chairs();
    private final Trail trail = new Trail();
    private int personCount = 0;
    private int placeCount = 0;
    private int latestFault = 0;

    public GumHall() {
        for (int k = 0; k < SHEETS; k++) {
            sheets[k] = new Sheet();
        }
    }

    // ---- 1 the hall

    public int hall(int sheet, int lane, int i, int n) {
        latestFault = 0;
        Sheet row = sheetOf(sheet);
        if (row == null) return UNKNOWN;
        if (!isLane(lane)) return OUTSIDE;
        if (row.faultAs(lane) != 0) return fails(row.faultAs(lane));
        if (n < 0) return fails(SIZE);
        if (!row.reaches(i, n)) return fails(INDEX);
        int wrong = firstFault(row, i, n);
        if (wrong != NONE) return -100 - wrong;
        open(row, i, n);
        return personCount;
    }

    public int ofPerson(int p, int what) {
        Sitter person = personOf(p);
        if (person == null) return UNKNOWN;
        if (!isEither(what)) return OUTSIDE;
        return what == 0 ? person.kindNumber() : person.flavour;
    }

    public int gum(int p, int night) {
        Sitter person = personOf(p);
        if (person == null) return UNKNOWN;
        if (!isNight(night)) return OUTSIDE;
        return person.leaves(night);
    }

    // ---- 2 nights

    public int sit(int p, int place, int night) {
        Sitter person = personOf(p);
        if (person == null || !isPlace(place)) return UNKNOWN;
        if (!isNight(night)) return OUTSIDE;
        if (!maySit(p, place, night)) return STATE;
        if (story.isFull(Story.SITTING)) return FULL;
        return story.add(Story.SITTING, night, place, p, person.leaves(night));
    }

    public int rise(int k) {
        return story.takeBack(Story.SITTING, k);
    }

    public int move(int a, int b, int night) {
        if (!isPlace(a) || !isPlace(b) || a == b) return UNKNOWN;
        if (!isNight(night)) return OUTSIDE;
        if (story.isFull(Story.MOVE)) return FULL;
        return story.add(Story.MOVE, night, a, b, 0);
    }

    public int unmove(int k) {
        return story.takeBack(Story.MOVE, k);
    }

    public int scrape(int place, int night) {
        if (!isPlace(place)) return UNKNOWN;
        if (!isNight(night)) return OUTSIDE;
        if (story.isFull(Story.SCRAPE)) return FULL;
        return story.add(Story.SCRAPE, night, place, 0, 0);
    }

    public int unscrape(int k) {
        return story.takeBack(Story.SCRAPE, k);
    }

    public int layers(int place, int night) {
        if (!isPlace(place)) return UNKNOWN;
        if (!isNight(night)) return OUTSIDE;
        story.playTo(night, chairs);
        return chairs.heightAt(place);
    }

    public int under(int place, int night, int k, int what) {
        if (!isPlace(place) || k < 0) return UNKNOWN;
        if (!isNight(night) || !isEither(what)) return OUTSIDE;
        story.playTo(night, chairs);
        int sitting = chairs.layerAt(place, k);
        if (sitting == NONE || what == 1) return sitting;
        return story.gumOf(sitting);
    }

    public int chair(int place, int night) {
        if (!isPlace(place)) return UNKNOWN;
        if (!isNight(night)) return OUTSIDE;
        story.playTo(night, chairs);
        return chairs.chairIn(place);
    }

    // ---- 3 people

    public int beside(int p, int other) {
        if (personOf(p) == null || personOf(other) == null || p == other) return UNKNOWN;
        int nights = 0;
        for (int k = 0; k < story.count(Story.SITTING); k++) {
            int place = story.placeOf(k);
            int next = placeOn(story.nightOf(k), other);
            if (story.personOf(k) == p && next != NONE && Math.abs(place - next) == 1) nights++;
        }
        return nights;
    }

    public int habit(int p, int what) {
        if (personOf(p) == null) return UNKNOWN;
        if (!isEither(what)) return OUTSIDE;
        int best = NONE;
        int most = 0;
        for (int place = 0; place < placeCount; place++) {
            int often = howOften(p, place);
            if (often > most) {
                best = place;
                most = often;
            }
        }
        return what == 0 ? best : most;
    }

    public int makers(int gum, int night) {
        if (!isGum(gum) || !isNight(night)) return OUTSIDE;
        if (!hasHall()) return STATE;
        int set = 0;
        for (int p = 0; p < personCount; p++) {
            if (gumLeft(p, night) == gum) set |= 1 << p;
        }
        return set;
    }

    public int judge(int sheet, int lane, int i, int n) {
        latestFault = 0;
        Sheet row = sheetOf(sheet);
        if (row == null) return UNKNOWN;
        if (!isLane(lane) || n < 0 || n > MOST_CLAIMS) return OUTSIDE;
        if (!hasHall()) return STATE;
        if (row.faultAs(lane) != 0) return fails(row.faultAs(lane));
        if (!row.reaches(i, CLAIM * n)) return fails(INDEX);
        if (!areClaims(row, i, n)) return OUTSIDE;
        for (int claim = 0; claim < n; claim++) {
            if (!claimMayBe(row, i, claim)) return claim;
        }
        return NONE;
    }

    // ---- 4 what a cleaner found

    public int reading(int place, int night, int k, int gum) {
        if (!isPlace(place)) return UNKNOWN;
        if (!isNight(night) || k < 0 || k > MOST_LAYER) return OUTSIDE;
        if (!isGum(gum) && gum != NOT_THERE) return OUTSIDE;
        if (story.isFull(Story.READING)) return FULL;
        return story.add(Story.READING, night, place, k, gum);
    }

    public int back(int k) {
        return story.takeBack(Story.READING, k);
    }

    public int sat(int place, int night) {
        if (!isPlace(place)) return UNKNOWN;
        if (!isNight(night)) return OUTSIDE;
        int set = 0;
        for (int p = 0; p < personCount; p++) {
            if (maySit(p, place, night) && isSoWith(Story.SITTING, night, place, p)) set |= 1 << p;
        }
        return set;
    }

    public int moved(int night) {
        if (!isNight(night)) return OUTSIDE;
        if (!hasHall()) return STATE;
        for (int a = 0; a < placeCount; a++) {
            for (int b = a + 1; b < placeCount; b++) {
                if (isSoWith(Story.MOVE, night, a, b)) return 10 * a + b;
            }
        }
        return NONE;
    }

    public int scraped(int night) {
        if (!isNight(night)) return OUTSIDE;
        if (!hasHall()) return STATE;
        int set = 0;
        for (int place = 0; place < placeCount; place++) {
            if (isSoWith(Story.SCRAPE, night, place, 0)) set |= 1 << place;
        }
        return set;
    }

    public int never() {
        if (!hasHall()) return STATE;
        int set = 0;
        for (int sitting = 0; sitting < story.count(Story.SITTING); sitting++) {
            if (story.isSoWithout(sitting, chairs)) set |= 1 << sitting;
        }
        return set;
    }

    public int look(int night, int end, int what) {
        if (!isNight(night) || !isNight(end) || !isEither(what)) return OUTSIDE;
        if (!hasHall()) return STATE;
        int free = personCount - seatedOn(night);
        int all = free * (placeCount - seatedOn(night));
        int shown = Math.max(all - free, mostAlike(night));
        int places = telling(night, end);
        int best = 0;
        int least = (places & 1) != 0 ? shown : all;
        for (int place = 1; place < placeCount; place++) {
            int greatest = (places >> place & 1) != 0 ? shown : all;
            if (greatest < least) {
                best = place;
                least = greatest;
            }
        }
        return what == 0 ? best : least;
    }

    // ---- 5 odds, sheets, parts

    public long odds(int place, int night, int v, int which) {
        if (!isPlace(place)) return LOST;
        if (!isNight(night) || v < 0 || v > MOST_SITTINGS || !isEither(which)) return LOST;
        story.playTo(night, chairs);
        // Whether one sitting's gum lies there does not hang on the other sittings,
        // so the sets that count are those with just v of the sittings that lie there now.
        int height = chairs.heightAt(place);
        long upper = waysToPick(height, v);
        long lower = 1L << height;
        if (upper == 0) lower = 1;
        for (int halved = 0; halved < height && lower > 1 && upper % 2 == 0; halved++) {
            upper /= 2;
            lower /= 2;
        }
        return which == 0 ? upper : lower;
    }

    public int sheet(int k, int lane, int n) {
        latestFault = 0;
        Sheet row = sheetOf(k);
        if (row == null) return UNKNOWN;
        if (!isLane(lane) || n > MOST_CELLS) return OUTSIDE;
        if (n < 0) return fails(SIZE);
        row.renew(lane, n);
        return 1;
    }

    public int lose(int k) {
        Sheet row = sheetOf(k);
        if (row == null) return UNKNOWN;
        if (row.isNothing()) return 0;
        row.drop();
        return 1;
    }

    public int put(int k, int i, int v) {
        latestFault = 0;
        Sheet row = sheetOf(k);
        if (row == null) return UNKNOWN;
        if (row.isNothing()) return fails(NULL);
        if (!row.reaches(i, 1)) return fails(INDEX);
        row.write(i, v);
        return 1;
    }

    public long cell(int k, int i, int lane) {
        latestFault = 0;
        Sheet row = sheetOf(k);
        if (row == null || !isLane(lane)) return LOST;
        latestFault = row.faultAs(lane);
        if (latestFault == 0 && !row.reaches(i, 1)) latestFault = INDEX;
        return latestFault != 0 ? LOST : row.read(i);
    }

    public int copy(int k, int i, int other, int j, int n) {
        latestFault = 0;
        Sheet from = sheetOf(k);
        Sheet to = sheetOf(other);
        if (from == null || to == null) return UNKNOWN;
        if (from.isNothing() || to.isNothing()) return fails(NULL);
        if (to.faultAs(from.lane) != 0) return fails(CAST);
        if (!from.reaches(i, n) || !to.reaches(j, n)) return fails(INDEX);
        to.take(j, from, i, n);
        return n;
    }

    public int tell(int p) {
        Sitter person = personOf(p);
        if (person == null) return UNKNOWN;
        return person.says(trail);
    }

    public int greet(int p) {
        Sitter person = personOf(p);
        if (person == null) return UNKNOWN;
        return person.isGreeted(p, trail);
    }

    public int as(int p, int kind) {
        latestFault = 0;
        Sitter person = personOf(p);
        if (person == null) return UNKNOWN;
        if (kind < 0 || kind > 2) return OUTSIDE;
        // Each kind is one of all the kinds with lesser numbers, too.
        if (person.kindNumber() < kind) return fails(CAST);
        return 1;
    }

    public int trace() {
        return trail.value;
    }

    public int fault() {
        return latestFault;
    }

    public int many(int what) {
        switch (what) {
            case 0: return personCount;
            case 1: return placeCount;
            case 2: return story.count(Story.SITTING);
            case 3: return story.count(Story.MOVE);
            case 4: return story.count(Story.SCRAPE);
            case 5: return story.count(Story.READING);
            default: return OUTSIDE;
        }
    }

    // ---- what a call's numbers may be

    private Sheet sheetOf(int k) {
        return k >= 0 && k < SHEETS ? sheets[k] : null;
    }

    private Sitter personOf(int p) {
        return p >= 0 && p < personCount && p < MOST_PERSONS ? persons[p] : null;
    }

    private boolean hasHall() {
        return personCount > 0;
    }

    private boolean isPlace(int place) {
        return place >= 0 && place < placeCount;
    }

    private static boolean isNight(int night) {
        return night >= 0 && night < NIGHTS;
    }

    private static boolean isGum(int gum) {
        return gum >= 0 && gum < GUMS;
    }

    private static boolean isLane(int lane) {
        return lane >= 0 && lane < LANES;
    }

    private static boolean isEither(int what) {
        return what == 0 || what == 1;
    }

    private int fails(int fault) {
        latestFault = fault;
        return -10 - fault;
    }

    // ---- reading a text

    /** The place of the first code that is wrong, or how many codes there are; NONE if it is a TEXT. */
    private static int firstFault(Sheet row, int from, int n) {
        for (int at = 0; at < n; at++) {
            if (!goesOn(at, row.read(from + at))) return at;
        }
        boolean isWhole = n > TEXT_HEAD && (n - TEXT_HEAD) % TEXT_PERSON == 0;
        return isWhole ? NONE : n;
    }

    private static boolean goesOn(int at, int code) {
        if (at == 0) return code == 'h';
        if (at == 1) return code >= '2' && code <= '6';
        if (at >= TEXT_HEAD + TEXT_PERSON * MOST_PERSONS) return false;
        switch ((at - TEXT_HEAD) % TEXT_PERSON) {
            case 0: return code == ';';
            case 1: return code == 's' || code == 'f' || code == 'b';
            default: return code >= '0' && code <= '3';
        }
    }

    /** Makes all anew by a row that holds a TEXT. */
    private void open(Sheet row, int from, int n) {
        story.clear();
        placeCount = Math.min(row.read(from + 1) - '0', MOST_PLACES);
        personCount = 0;
        for (int at = TEXT_HEAD; at < n && personCount < MOST_PERSONS; at += TEXT_PERSON) {
            int letter = row.read(from + at + 1);
            int flavour = row.read(from + at + 2) - '0';
            persons[personCount] = personBy(letter, flavour);
            personCount++;
        }
    }

    private static Sitter personBy(int letter, int flavour) {
        switch (letter) {
            case 'b': return new Biter(flavour);
            case 'f': return new Fickle(flavour);
            default: return new Sitter(flavour);
        }
    }

    // ---- who sits where

    private int gumLeft(int p, int night) {
        Sitter person = personOf(p);
        return person == null ? NONE : person.leaves(night);
    }

    private boolean maySit(int p, int place, int night) {
        return placeOn(night, p) == NONE && !isTaken(place, night);
    }

    private int placeOn(int night, int p) {
        for (int k = 0; k < story.count(Story.SITTING); k++) {
            if (story.nightOf(k) == night && story.personOf(k) == p) {
                return story.placeOf(k);
            }
        }
        return NONE;
    }

    private boolean isTaken(int place, int night) {
        for (int k = 0; k < story.count(Story.SITTING); k++) {
            if (story.nightOf(k) == night && story.placeOf(k) == place) {
                return true;
            }
        }
        return false;
    }

    private int howOften(int p, int place) {
        int often = 0;
        for (int k = 0; k < story.count(Story.SITTING); k++) {
            if (story.personOf(k) == p && story.placeOf(k) == place) often++;
        }
        return often;
    }

    private int seatedOn(int night) {
        int seated = 0;
        for (int k = 0; k < story.count(Story.SITTING); k++) {
            if (story.nightOf(k) == night) seated++;
        }
        return seated;
    }

    // ---- claims

    private boolean areClaims(Sheet row, int from, int n) {
        for (int claim = 0; claim < n; claim++) {
            int at = from + CLAIM * claim;
            if (personOf(row.read(at)) == null) return false;
            if (!isPlace(row.read(at + 1)) || !isNight(row.read(at + 2))) return false;
        }
        return true;
    }

    private boolean claimMayBe(Sheet row, int from, int claim) {
        int at = from + CLAIM * claim;
        int p = row.read(at);
        int place = row.read(at + 1);
        int night = row.read(at + 2);
        for (int k = 0; k < story.count(Story.SITTING); k++) {
            boolean samePerson = story.personOf(k) == p;
            boolean samePlace = story.placeOf(k) == place;
            if (story.nightOf(k) == night && samePerson != samePlace) return false;
        }
        for (int ahead = from; ahead < at; ahead += CLAIM) {
            boolean samePerson = row.read(ahead) == p;
            boolean samePlace = row.read(ahead + 1) == place;
            if (row.read(ahead + 2) == night && samePerson != samePlace) return false;
        }
        return true;
    }

    // ---- what follows from readings

    // A scrape more comes behind the others of its night here, not ahead of them: chairs move
    // only after all scrapes of a night, so the order among these changes nothing.
    private boolean isSoWith(int kind, int night, int place, int other) {
        int gum = kind == Story.SITTING ? gumLeft(other, night) : 0;
        story.add(kind, night, place, other, gum);
        boolean isSo = story.isSoWithout(NONE, chairs);
        story.takeBack(kind, 1);
        return isSo;
    }

    // ---- where to look

    // One more sitting shows at the one place at most where its chair stands then, if that
    // chair was not scraped since; there two of them are alike just if their gums are. So at a
    // place that tells, the groups are: all sittings on other chairs, and those of each gum.

    /** The places, as a set, where a gum left at some free place on a night lies at the end of another. */
    private int telling(int night, int end) {
        int set = 0;
        for (int place = 0; place < placeCount; place++) {
            int rest = isTaken(place, night) ? NONE : story.restOf(place, night, end);
            if (rest != NONE) set |= 1 << rest;
        }
        return set;
    }

    /** How many of those who did not sit on a night leave the same gum on it, at most. */
    private int mostAlike(int night) {
        Arrays.fill(tally, 0);
        int most = 0;
        for (int p = 0; p < personCount; p++) {
            int gum = gumLeft(p, night);
            if (isGum(gum) && placeOn(night, p) == NONE) {
                tally[gum]++;
                most = Math.max(most, tally[gum]);
            }
        }
        return most;
    }

    // ---- odds

    private static long waysToPick(int all, int some) {
        if (some > all) return 0;
        long ways = 1;
        for (int k = 1; k <= some; k++) {
            ways = ways * (all - some + k) / k;
        }
        return ways;
    }

    /** Sittings, moves, scrapes and readings, and the order in which they count. */
    static final class Story {
        // The numbers are the order in which things of one night come.
        static final int SCRAPE = 0, MOVE = 1, SITTING = 2, READING = 3;
        private static final int KINDS = 4, SLOTS = 48;
        private static final int[] MOST = {6, 6, 24, 8};
        // Each kind has room for one more than it may have: the one that might have been.
        private static final int[] FIRST_SLOT = {0, 7, 14, 39};

        private final int[] counts = new int[KINDS];
        private final int[] nights = new int[SLOTS];
        private final int[] places = new int[SLOTS];
        private final int[] others = new int[SLOTS];
        private final int[] gums = new int[SLOTS];
        private final int[] order = new int[SLOTS];
        private int size = 0;

        void clear() {
            Arrays.fill(counts, 0);
            size = 0;
        }

        int count(int kind) {
            return kind >= 0 && kind < KINDS ? counts[kind] : 0;
        }

        boolean isFull(int kind) {
            return kind < 0 || kind >= KINDS || counts[kind] >= MOST[kind];
        }

        /** Takes one more (the last of its kind and night) even if that kind is full, but not two. */
        int add(int kind, int night, int place, int other, int gum) {
            if (kind < 0 || kind >= KINDS || counts[kind] > MOST[kind] || size >= SLOTS) return FULL;
            int number = counts[kind];
            int slot = FIRST_SLOT[kind] + number;
            nights[slot] = night;
            places[slot] = place;
            others[slot] = other;
            gums[slot] = gum;
            int at = size;
            while (at > 0 && isBefore(slot, order[at - 1])) {
                order[at] = order[at - 1];
                at--;
            }
            order[at] = slot;
            size++;
            counts[kind]++;
            return number;
        }

        private boolean isBefore(int slot, int other) {
            if (nights[slot] != nights[other]) return nights[slot] < nights[other];
            return kindIn(slot) < kindIn(other);
        }

        /** Takes back the last k of a kind: how many are left; OUTSIDE: there are not so many. */
        int takeBack(int kind, int k) {
            if (kind < 0 || kind >= KINDS || k < 0 || k > counts[kind]) return OUTSIDE;
            int left = counts[kind] - k;
            int kept = 0;
            for (int at = 0; at < size; at++) {
                int slot = order[at];
                if (kindIn(slot) != kind || slot < FIRST_SLOT[kind] + left) {
                    order[kept] = slot;
                    kept++;
                }
            }
            size = kept;
            counts[kind] = left;
            return left;
        }

        private static int kindIn(int slot) {
            if (slot < FIRST_SLOT[MOVE]) return SCRAPE;
            if (slot < FIRST_SLOT[SITTING]) return MOVE;
            return slot < FIRST_SLOT[READING] ? SITTING : READING;
        }

        private int slotOf(int sitting) {
            return sitting >= 0 && sitting < counts[SITTING] ? FIRST_SLOT[SITTING] + sitting : NONE;
        }

        int personOf(int sitting) {
            int slot = slotOf(sitting);
            return slot == NONE ? NONE : others[slot];
        }

        int placeOf(int sitting) {
            int slot = slotOf(sitting);
            return slot == NONE ? NONE : places[slot];
        }

        int nightOf(int sitting) {
            int slot = slotOf(sitting);
            return slot == NONE ? NONE : nights[slot];
        }

        int gumOf(int sitting) {
            int slot = slotOf(sitting);
            return slot == NONE ? NONE : gums[slot];
        }

        /** Brings the chairs to the end of a night. */
        void playTo(int end, Chairs chairs) {
            chairs.reset();
            for (int at = 0; at < size && nights[order[at]] <= end; at++) {
                happen(order[at], chairs);
            }
        }

        /** Whether all readings are so without one sitting (NONE: with them all). */
        boolean isSoWithout(int sitting, Chairs chairs) {
            int leftOut = slotOf(sitting);
            chairs.reset();
            for (int at = 0; at < size; at++) {
                int slot = order[at];
                if (kindIn(slot) == READING && !isSo(slot, chairs)) return false;
                if (slot != leftOut) happen(slot, chairs);
            }
            return true;
        }

        private void happen(int slot, Chairs chairs) {
            switch (kindIn(slot)) {
                case SCRAPE:
                    chairs.wipe(places[slot]);
                    break;
                case MOVE:
                    chairs.swap(places[slot], others[slot]);
                    break;
                case SITTING:
                    chairs.press(places[slot], slot - FIRST_SLOT[SITTING]);
                    break;
                default:
                    break;
            }
        }

        private boolean isSo(int reading, Chairs chairs) {
            int sitting = chairs.layerAt(places[reading], others[reading]);
            int found = sitting == NONE ? NOT_THERE : gumOf(sitting);
            return found == gums[reading];
        }

        /** Where a gum that is left at a place on a night lies at the end of another; NONE: nowhere. */
        int restOf(int place, int night, int end) {
            if (end < night) return NONE;
            int rest = place;
            for (int at = 0; at < size && nights[order[at]] <= end; at++) {
                int slot = order[at];
                if (nights[slot] > night) {
                    if (kindIn(slot) == SCRAPE && places[slot] == rest) return NONE;
                    if (kindIn(slot) == MOVE) rest = movedFrom(rest, places[slot], others[slot]);
                }
            }
            return rest;
        }

        private static int movedFrom(int place, int a, int b) {
            if (place == a) return b;
            return place == b ? a : place;
        }
    }

    /** The chairs as they stand at a moment, and by which sittings what lies under them is. */
    static final class Chairs {
        private static final int MOST_LAYERS = 25;

        private final int[] standing = new int[MOST_PLACES];
        private final int[] heights = new int[MOST_PLACES];
        private final int[] sittings = new int[MOST_PLACES * MOST_LAYERS];

        void reset() {
            for (int k = 0; k < MOST_PLACES; k++) {
                standing[k] = k;
                heights[k] = 0;
            }
        }

        int chairIn(int place) {
            return place >= 0 && place < MOST_PLACES ? standing[place] : NONE;
        }

        int heightAt(int place) {
            int chair = chairIn(place);
            return chair == NONE ? 0 : heights[chair];
        }

        /** The sitting by which a layer is; NONE: it is not there. */
        int layerAt(int place, int k) {
            if (k < 0 || k >= heightAt(place)) return NONE;
            return sittings[chairIn(place) * MOST_LAYERS + k];
        }

        void wipe(int place) {
            int chair = chairIn(place);
            if (chair != NONE) heights[chair] = 0;
        }

        void swap(int a, int b) {
            int chairA = chairIn(a);
            int chairB = chairIn(b);
            if (chairA == NONE || chairB == NONE) return;
            standing[a] = chairB;
            standing[b] = chairA;
        }

        void press(int place, int sitting) {
            int chair = chairIn(place);
            if (chair == NONE || heights[chair] >= MOST_LAYERS) return;
            sittings[chair * MOST_LAYERS + heights[chair]] = sitting;
            heights[chair]++;
        }
    }

    /** Nothing, or a row of numbers of a lane. */
    static final class Sheet {
        private static final int NOTHING = -1, BYTES = 0, SHORTS = 1;

        private final int[] cells = new int[MOST_CELLS];
        private int length = 0;
        int lane = NOTHING;

        boolean isNothing() {
            return lane == NOTHING;
        }

        void renew(int newLane, int n) {
            Arrays.fill(cells, 0);
            length = Math.max(0, Math.min(n, MOST_CELLS));
            lane = newLane;
        }

        void drop() {
            length = 0;
            lane = NOTHING;
        }

        /** The fault of taking it as a row of a lane; 0: none. */
        int faultAs(int wanted) {
            if (isNothing()) return NULL;
            return lane == wanted ? 0 : CAST;
        }

        boolean reaches(int from, int n) {
            return from >= 0 && from <= length && n >= 0 && n <= length - from;
        }

        int read(int i) {
            return reaches(i, 1) ? cells[i] : 0;
        }

        void write(int i, int v) {
            if (reaches(i, 1)) cells[i] = cut(v);
        }

        private int cut(int v) {
            if (lane == BYTES) return (byte) v;
            return lane == SHORTS ? (short) v : v;
        }

        /** Takes cells of another sheet (perhaps itself) of the same lane, as they were. */
        void take(int to, Sheet other, int from, int n) {
            if (other == null || !other.reaches(from, n) || !reaches(to, n)) return;
            System.arraycopy(other.cells, from, cells, to, n);
        }
    }

    /** What the bodies leave as they begin. */
    static final class Trail {
        int value = 0;

        void mark(int body) {
            value = 31 * value + body;
        }
    }

    static class Sitter {
        final int flavour;

        Sitter(int flavour) {
            this.flavour = flavour;
        }

        int kindNumber() {
            return 0;
        }

        int leaves(int night) {
            return flavour;
        }

        int says(Trail trail) {
            return saysPlainly(trail);
        }

        /** The sitter's own words, for those who leave out what lies between. */
        final int saysPlainly(Trail trail) {
            trail.mark(1);
            return flavour;
        }

        int isGreeted(int number, Trail trail) {
            trail.mark(4);
            return number;
        }
    }

    static class Fickle extends Sitter {
        Fickle(int flavour) {
            super(flavour);
        }

        int kindNumber() {
            return 1;
        }

        int leaves(int night) {
            return (flavour + night / 10) % 4;
        }

        int says(Trail trail) {
            trail.mark(2);
            return super.says(trail) + 100;
        }
    }

    static final class Biter extends Fickle {
        Biter(int flavour) {
            super(flavour);
        }

        int kindNumber() {
            return 2;
        }

        int leaves(int night) {
            return super.leaves(night) + 4;
        }

        int says(Trail trail) {
            trail.mark(3);
            int fickle = super.says(trail);
            return fickle + saysPlainly(trail);
        }

        int isGreeted(int number, Trail trail) {
            trail.mark(5);
            return 70;
        }
    }
}
