import java.io.IOException;
import java.io.UncheckedIOException;
import java.nio.file.Files;
import java.nio.file.Path;
import java.util.ArrayList;
import java.util.IdentityHashMap;
import java.util.List;
import java.util.Map;

/** What the tests share: answers that are due, states to begin from, and all that can be seen of an object. */
class Checks {
    static final int UNKNOWN = -1, OUTSIDE = -2, STATE = -3, FULL = -4, NONE = -9;
    static final int NULL = -11, CAST = -12, INDEX = -13, SIZE = -14;
    static final long LOST = Long.MIN_VALUE;
    static final int MIN = Integer.MIN_VALUE, MAX = Integer.MAX_VALUE;
    static final int BYTES = 0, SHORTS = 1, INTS = 2;
    /** Of fault() behind a call: it names no FAULTS, so all is as it was. */
    static final int KEPT = -1;
    /** The longest TEXT. */
    static final String FIVE = "h6;s0;f1;b2;s3;f0";

    private static final Path DOCUMENT = Path.of("../shared/DOC.md");
    // An object is used for 512 calls; the states take at most 200 of them.
    private static final int PROBES_OF_ONE_OBJECT = 300;
    private static final List<Probe> PROBES = probes();
    private static final Map<Build, long[]> SEEN = new IdentityHashMap<>();

    private static int checked = 0;
    private static int wrong = 0;
    private static String subject = "";
    private static String document = null;

    interface Build {
        void on(GumHall x);
    }

    interface Call {
        long on(GumHall x);
    }

    /** A call that hangs on one number. */
    interface CallBy {
        long on(GumHall x, int number);
    }

    /** A state in which there are so many of a thing. */
    interface BuildBy {
        void on(GumHall x, int n);
    }

    private record Probe(String name, Call call) { }

    // ---- what is due

    /** What the checks that follow are about. */
    static void about(String what) {
        subject = what;
    }

    /** The sentence of the document that the checks that follow are about, in its own words. */
    static void says(String words) {
        subject = "\"" + words + "\"";
        due("the document has these words", theDocument().contains(words) ? 1 : 0, 1);
    }

    static void due(String told, long got, long want) {
        checked++;
        if (got == want) return;
        wrong++;
        System.out.println(subject + ": " + told + " answered " + got + ", due is " + want);
    }

    static void end(String name) {
        System.out.println(name + ": " + (checked - wrong) + " answers as due, " + wrong + " not");
        if (wrong != 0) System.exit(1);
    }

    private static String theDocument() {
        try {
            if (document == null) document = Files.readString(DOCUMENT);
            return document;
        } catch (IOException e) {
            throw new UncheckedIOException(e);
        }
    }

    // ---- writing sheets and halls

    static void write(GumHall x, int k, int lane, int... cells) {
        x.sheet(k, lane, cells.length);
        for (int i = 0; i < cells.length; i++) x.put(k, i, cells[i]);
    }

    static int[] codes(String text) {
        return text.chars().toArray();
    }

    /** hall() by a text, from sheet 3. */
    static int text(GumHall x, String text) {
        write(x, 3, INTS, codes(text));
        return x.hall(3, INTS, 0, text.length());
    }

    static GumHall hallOf(String text) {
        GumHall x = new GumHall();
        if (text(x, text) < 1) due("hall " + text, 0, 1);
        return x;
    }

    static GumHall made(Build state) {
        GumHall x = new GumHall();
        state.on(x);
        return x;
    }

    // ---- states to begin from

    static final Build NEW = x -> { };

    /** Sheets of each lane (bytes, shorts with a TEXT, nothing, ints as long as may be), but no hall. */
    static final Build NO_HALL = x -> {
        write(x, 0, BYTES, 1, 2, 3);
        write(x, 1, SHORTS, codes("h2;s0"));
        x.sheet(3, INTS, 60);
        x.put(3, 59, 7);
    };

    /** Three persons at three places and some of each thing; sheets of each lane and one with nothing. */
    static final Build BUSY = Checks::makeBusy;

    /** The largest hall with all things as often as they may be. */
    static final Build FULL_HALL = Checks::makeFull;

    private static void makeBusy(GumHall x) {
        sitBusily(x);
        x.tell(2);
        x.greet(0);
        x.reading(2, 39, 0, 1);
        x.reading(1, 39, 2, 9);
        write(x, 0, BYTES, 1, 2, 3);
        write(x, 1, SHORTS, codes("h2;s0"));
    }

    /** Chair 2 at place 0 and chair 0 at place 2 from night 10 on; place 1 scraped on night 20. */
    static void sitBusily(GumHall x) {
        text(x, "h3;s1;f3;b2");
        x.sit(0, 0, 1);
        x.sit(1, 1, 1);
        x.sit(2, 2, 10);
        x.sit(0, 0, 10);
        x.sit(1, 1, 20);
        x.sit(2, 1, 30);
        x.move(0, 2, 10);
        x.scrape(1, 20);
    }

    private static void makeFull(GumHall x) {
        text(x, FIVE);
        x.tell(2);
        x.greet(0);
        for (int k = 0; k < 24; k++) x.sit(k % 5, k % 6, k / 2 * 3);
        for (int k = 0; k < 6; k++) x.move(k, 5 - k, 5 * k + 2);
        for (int k = 0; k < 6; k++) x.scrape(k, 7 * k + 1);
        for (int k = 0; k < 8; k++) readWhatLies(x, k % 6, k / 6);
        write(x, 0, BYTES, 0, 5, 39, 4, 0, 39);
        x.sheet(1, SHORTS, 0);
        x.sheet(2, INTS, 60);
        x.put(2, 0, MAX);
        x.put(2, 59, MIN);
    }

    private static void readWhatLies(GumHall x, int place, int k) {
        int gum = x.under(place, 39, k, 0);
        x.reading(place, 39, k, gum == NONE ? 9 : gum);
    }

    // ---- calls that change nothing

    /** A call's answer, fault() behind it (KEPT, or a number), and that all else is as it was. */
    static void leaves(String told, Build state, Call call, long want, int fault) {
        GumHall x = made(state);
        int before = leaveAFault(x, fault);
        due(told, call.on(x), want);
        due(told + ", then fault()", x.fault(), fault == KEPT ? before : fault);
        Build behind = y -> {
            state.on(y);
            leaveAFault(y, fault);
            call.on(y);
        };
        compare(told, seen(behind), SEEN.computeIfAbsent(state, Checks::seen));
    }

    /** Leaves a fault that is not the one that is due, so that both keeping and changing it can be seen. */
    private static int leaveAFault(GumHall x, int due) {
        if (due == 4) x.put(0, -1, 0);
        else x.sheet(0, 0, -1);
        return x.fault();
    }

    /** A refusal, or a question, of a call that names no FAULTS. */
    static void keeps(String told, Build state, Call call, long want) {
        leaves(told, state, call, want, KEPT);
    }

    /** A refusal, or a question, of a call that names FAULTS: it came to none. */
    static void keepsAllButFault(String told, Build state, Call call, long want) {
        leaves(told, state, call, want, 0);
    }

    /** A FAULT, by the answer that tells it. */
    static void fails(String told, Build state, Call call, int want) {
        leaves(told, state, call, want, -10 - want);
    }

    /** The numbers next to low .. high, and the farthest, are refused by a call that names no FAULTS. */
    static void refusedBeyond(String told, Build state, int low, int high, CallBy call, long want) {
        for (int number : beyond(low, high)) keeps(told + " " + number, state, x -> call.on(x, number), want);
    }

    static int[] beyond(int low, int high) {
        return new int[] {low - 1, high + 1, MIN, MAX};
    }

    /** A call that takes back things of which BUSY and FULL_HALL have so many: 0 .. as many as there are, none else. */
    static void takesBack(CallBy call, int inBusy, int inFull) {
        refusedBeyond("of none", NEW, 0, 0, call, OUTSIDE);
        refusedBeyond("of some", BUSY, 0, inBusy, call, OUTSIDE);
        refusedBeyond("of all", FULL_HALL, 0, inFull, call, OUTSIDE);
        keeps("none of none", NEW, x -> call.on(x, 0), 0);
        keeps("none of some", BUSY, x -> call.on(x, 0), inBusy);
        keeps("none of all", FULL_HALL, x -> call.on(x, 0), inFull);
    }

    /** The last k by their numbers go: what is left is as if no more had been told. */
    static void takesBackTheLast(CallBy call, int most, BuildBy state) {
        for (int k = 0; k <= most; k++) {
            int last = k;
            GumHall x = new GumHall();
            state.on(x, most);
            due("the last " + k, call.on(x, k), most - k);
            alike("the last " + k, y -> {
                state.on(y, most);
                call.on(y, last);
            }, y -> state.on(y, most - last));
        }
    }

    /** Two ways that come to the same: nothing that can be seen tells them apart. */
    static void alike(String told, Build one, Build other) {
        compare(told, seen(one), seen(other));
    }

    private static void compare(String told, long[] got, long[] want) {
        for (int i = 0; i < want.length; i++) due(told + ", then " + PROBES.get(i).name, got[i], want[i]);
    }

    // ---- all that can be seen of an object, but for fault()

    private static long[] seen(Build state) {
        long[] answers = new long[PROBES.size()];
        GumHall x = null;
        for (int i = 0; i < answers.length; i++) {
            if (i % PROBES_OF_ONE_OBJECT == 0) x = made(state);
            answers[i] = PROBES.get(i).call.on(x);
        }
        return answers;
    }

    private static List<Probe> probes() {
        List<Probe> all = new ArrayList<>();
        probe(all, "trace", 0, x -> x.trace());
        probe(all, "never", 0, x -> x.never());
        for (int what = 0; what < 6; what++) ofOne(all, what);
        for (int p = 0; p < 6; p++) ofPerson(all, p);
        for (int place = 0; place < 7; place++) {
            for (int night = 0; night < 40; night++) ofPlace(all, place, night);
            for (int k = 0; k < 25; k++) ofLayer(all, place, k);
        }
        for (int night = 0; night < 40; night++) ofNight(all, night);
        for (int k = 0; k < 4; k++) for (int i = 0; i < 61; i++) ofCell(all, k, i);
        for (int p = 0; p < 6; p++) ofBodies(all, p);
        return all;
    }

    private static void probe(List<Probe> all, String name, int number, Call call) {
        all.add(new Probe(name + " " + number, call));
    }

    private static void ofOne(List<Probe> all, int what) {
        probe(all, "many", what, x -> x.many(what));
    }

    private static void ofPerson(List<Probe> all, int p) {
        probe(all, "kind of", p, x -> x.ofPerson(p, 0));
        probe(all, "flavour of", p, x -> x.ofPerson(p, 1));
        probe(all, "habit of", p, x -> x.habit(p, 0));
        probe(all, "how often by habit", p, x -> x.habit(p, 1));
        for (int night = 0; night < 40; night += 10) gumOn(all, p, night);
        for (int other = 0; other < 6; other++) besideOf(all, p, other);
    }

    private static void gumOn(List<Probe> all, int p, int night) {
        probe(all, "gum of " + p + " on", night, x -> x.gum(p, night));
    }

    private static void besideOf(List<Probe> all, int p, int other) {
        probe(all, "beside of " + p + " and", other, x -> x.beside(p, other));
    }

    private static void ofPlace(List<Probe> all, int place, int night) {
        probe(all, "layers at " + place + " on", night, x -> x.layers(place, night));
        probe(all, "chair at " + place + " on", night, x -> x.chair(place, night));
        probe(all, "sat at " + place + " on", night, x -> x.sat(place, night));
    }

    private static void ofLayer(List<Probe> all, int place, int k) {
        probe(all, "gum under " + place + ", layer", k, x -> x.under(place, 39, k, 0));
        probe(all, "sitting under " + place + ", layer", k, x -> x.under(place, 39, k, 1));
        probe(all, "early sitting under " + place + ", layer", k, x -> x.under(place, 15, k, 1));
        probe(all, "odds at " + place + ", layers", k, x -> x.odds(place, 39, k, 0));
    }

    private static void ofNight(List<Probe> all, int night) {
        probe(all, "moved on", night, x -> x.moved(night));
        probe(all, "scraped on", night, x -> x.scraped(night));
        probe(all, "look on", night, x -> x.look(night, 39, 0));
        probe(all, "group on", night, x -> x.look(night, 39, 1));
    }

    private static void ofCell(List<Probe> all, int k, int i) {
        for (int l = 0; l < 3; l++) {
            int lane = l;
            probe(all, "cell of sheet " + k + " in lane " + lane + ",", i, x -> x.cell(k, i, lane));
        }
    }

    private static void ofBodies(List<Probe> all, int p) {
        probe(all, "tell of", p, x -> x.tell(p));
        probe(all, "greet of", p, x -> x.greet(p));
        for (int kind = 0; kind < 3; kind++) asKind(all, p, kind);
    }

    private static void asKind(List<Probe> all, int p, int kind) {
        probe(all, p + " as", kind, x -> x.as(p, kind));
    }
}
