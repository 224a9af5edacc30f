import java.util.function.IntFunction;

/** The edges of part 1, the hall (promises 1 to 4): a test for each sentence of the document that names one. */
public final class HallEdges extends Checks {
    public static void main(String[] args) {
        newObjectHasNoHall();
        newObjectHasNoSheets();
        digitOfPlaces();
        oneToFivePersons();
        letterAndFlavour();
        codesByTheirNumbers();
        eachCodeAtEachPlace();
        firstOfSeveralFaults();
        textsThatEndTooSoon();
        codesAreCutToTheirLane();
        cellsFromIOn();
        hallRefusals();
        hallFaults();
        hallOrder();
        aTextThatIsNotTaken();
        aTextThatIsTaken();
        ofPersonEdges();
        nightsOfGum();
        gumOfKinds();
        end("HallEdges");
    }

    // ---- promise 1

    private static void newObjectHasNoHall() {
        says("No HALL (no PLACES, PERSONS)");
        due("fault ahead of any", new GumHall().fault(), 0);
        due("trace", new GumHall().trace(), 0);
        Call[] unknown = {
            x -> x.ofPerson(0, 0), x -> x.gum(0, 0), x -> x.sit(0, 0, 0), x -> x.move(0, 1, 0), x -> x.scrape(0, 0),
            x -> x.layers(0, 0), x -> x.under(0, 0, 0, 0), x -> x.chair(0, 0), x -> x.beside(0, 1), x -> x.habit(0, 0),
            x -> x.reading(0, 0, 0, 0), x -> x.sat(0, 0), x -> x.tell(0), x -> x.greet(0),
        };
        for (int i = 0; i < unknown.length; i++) keeps("unknown " + i, NEW, unknown[i], UNKNOWN);
        keepsAllButFault("as", NEW, x -> x.as(0, 0), UNKNOWN);
        keeps("odds", NEW, x -> x.odds(0, 0, 0, 0), LOST);
        Call[] state = {
            x -> x.makers(0, 0), x -> x.moved(0), x -> x.scraped(0), x -> x.never(), x -> x.look(0, 0, 0),
        };
        for (int i = 0; i < state.length; i++) keeps("state " + i, NEW, state[i], STATE);
        keepsAllButFault("judge", NEW, x -> x.judge(0, 0, 0, 0), STATE);
        for (int what = 0; what < 6; what++) due("many " + what, new GumHall().many(what), 0);
    }

    private static void newObjectHasNoSheets() {
        says("SHEETS have nothing.");
        for (int k = 0; k < 4; k++) {
            int sheet = k;
            keeps("lose " + k, NEW, x -> x.lose(sheet), 0);
            fails("put " + k, NEW, x -> x.put(sheet, 0, 0), NULL);
            fails("copy " + k, NEW, x -> x.copy(sheet, 0, sheet, 0, 0), NULL);
            for (int l = 0; l < 3; l++) {
                int lane = l;
                fails("hall " + k, NEW, x -> x.hall(sheet, lane, 0, 0), NULL);
                leaves("cell " + k, NEW, x -> x.cell(sheet, 0, lane), LOST, 1);
            }
        }
    }

    // ---- promise 2: texts

    private static int taken(String text) {
        return text(new GumHall(), text);
    }

    private static void digitOfPlaces() {
        says("h, a digit 2 .. 6 (PLACES of a row, numbered from the left from 0 on; at first CHAIR k stands at PLACE k)");
        for (int places = 0; places < 10; places++) {
            boolean isTaken = places >= 2 && places <= 6;
            due("h" + places, taken("h" + places + ";s0"), isTaken ? 1 : -101);
            if (isTaken) placesOf(hallOf("h" + places + ";s0"), places);
        }
    }

    private static void placesOf(GumHall x, int places) {
        due("places", x.many(1), places);
        for (int k = 0; k < places; k++) {
            due("chair at " + k, x.chair(k, 0), k);
            due("chair at " + k + " to the end", x.chair(k, 39), k);
        }
        for (int place : beyond(0, places - 1)) due("place " + place, x.chair(place, 0), UNKNOWN);
    }

    private static void oneToFivePersons() {
        says("then 1 to 5 PERSONS, numbered from 0 on");
        due("none", taken("h3"), -102);
        for (int n = 1; n <= 5; n++) {
            GumHall x = new GumHall();
            due(n + " persons", text(x, FIVE.substring(0, 2 + 3 * n)), n);
            due("how many", x.many(0), n);
            for (int p = 0; p < n; p++) due("flavour of " + p, x.ofPerson(p, 1), new int[] {0, 1, 2, 3, 0}[p]);
            for (int p : beyond(0, n - 1)) due("person " + p, x.ofPerson(p, 0), UNKNOWN);
        }
        due("six", taken(FIVE + ";s0"), -117);
    }

    private static void letterAndFlavour() {
        says("each: ; and a letter, a digit 0 .. 3 (FLAVOUR).");
        for (int digit = 0; digit < 10; digit++) {
            GumHall x = new GumHall();
            boolean isTaken = digit <= 3;
            due("flavour " + digit, text(x, "h2;s0;b" + digit), isTaken ? 2 : -107);
            due("flavour " + digit, x.ofPerson(1, 1), isTaken ? digit : UNKNOWN);
        }
        due("the code ahead of 0", taken("h2;s/"), -104);
        due("the code behind 9", taken("h2;s:"), -104);
        due("no letter", taken("h2;0"), -103);
        due("no digit", taken("h2;ss"), -104);
        due("two digits", taken("h2;s12"), -105);
        due("no ;", taken("h2;s1f2"), -105);
    }

    private static void codesByTheirNumbers() {
        says("(Codes: h 104, s 115, f 102, b 98, ; 59, digits 48 .. 57.)");
        GumHall x = new GumHall();
        write(x, 0, BYTES, 104, 54, 59, 115, 48, 59, 102, 51, 59, 98, 49);
        due("h6;s0;f3;b1", x.hall(0, BYTES, 0, 11), 3);
        due("places", x.many(1), 6);
        for (int p = 0; p < 3; p++) {
            due("kind of " + p, x.ofPerson(p, 0), p);
            due("flavour of " + p, x.ofPerson(p, 1), new int[] {0, 3, 1}[p]);
        }
    }

    /** The codes with which a TEXT goes on at a place. */
    private static String codesAt(int at) {
        if (at == 0) return "h";
        if (at == 1) return "23456";
        return at > 16 ? "" : new String[] {";", "sfb", "0123"}[(at - 2) % 3];
    }

    private static void eachCodeAtEachPlace() {
        says("the place (from 0 on) of the first code with which no TEXT goes on (the ; of a sixth PERSON)");
        for (int at = 0; at < 20; at++) {
            for (int code = -1; code <= 256; code++) oneCode(at, code);
            for (int code : new int[] {MIN, MAX, 'h' + 65536, ';' - 256, 'h' - 128}) oneCode(at, code);
        }
    }

    private static void oneCode(int at, int code) {
        int[] codes = codes((FIVE + ";s0").substring(0, Math.max(17, at + 1)));
        codes[at] = code;
        GumHall x = new GumHall();
        write(x, 0, INTS, codes);
        boolean goesOn = code > 0 && code < 256 && codesAt(at).indexOf(code) >= 0;
        // Behind a sixth PERSON's ; no code counts any more.
        int want = at >= 17 ? -117 : goesOn ? 5 : -100 - at;
        due("code " + code + " at " + at, x.hall(0, INTS, 0, codes.length), want);
        due("fault", x.fault(), 0);
        due("persons", x.many(0), Math.max(0, want));
    }

    private static void firstOfSeveralFaults() {
        says("FIRST FAULT: the place (from 0 on) of the first code");
        due("all wrong", taken("xxxxx"), -100);
        due("two wrong", taken("h7;x9"), -101);
        due("wrong letter, then wrong digit", taken("h6;x9"), -103);
        due("wrong, and ends too soon", taken("h6;x"), -103);
        due("wrong as the last", taken("h9"), -101);
        due("wrong in the fifth person", taken("h6;s0;f1;b2;s3;f4"), -116);
        due("wrong ahead of a sixth", taken("h6;s0;f1;b2;s3;f4;s0"), -116);
        due("great letters", taken("h6;S0"), -103);
    }

    private static void textsThatEndTooSoon() {
        says("how many codes there are, if it just ends too soon.");
        for (int n = 0; n <= 17; n++) {
            boolean isWhole = n > 2 && n % 3 == 2;
            due("the first " + n, taken(FIVE.substring(0, n)), isWhole ? (n - 2) / 3 : -100 - n);
        }
        GumHall x = new GumHall();
        x.sheet(0, BYTES, 60);
        due("sixty codes", x.hall(0, BYTES, 0, 60), -100);
        due("no codes", x.hall(0, BYTES, 0, 0), -100);
        due("no codes at the end", x.hall(0, BYTES, 60, 0), -100);
    }

    private static void codesAreCutToTheirLane() {
        says("A HALL by a TEXT of n cells of a SHEET from i on, taken as a row of a LANE");
        for (int lane = 0; lane < 3; lane++) {
            for (int more : new int[] {0, 256, 65536}) {
                int[] codes = codes("h2;s0");
                codes[0] += more;
                GumHall x = new GumHall();
                write(x, lane, lane, codes);
                boolean isCut = more == 0 || lane == BYTES || lane == SHORTS && more == 65536;
                due("lane " + lane + ", " + more + " more", x.hall(lane, lane, 0, 5), isCut ? 1 : -100);
            }
        }
    }

    private static void cellsFromIOn() {
        says("how many PERSONS; -100 less the FIRST FAULT.");
        for (int from : new int[] {0, 1, 54, 55}) {
            GumHall x = new GumHall();
            x.sheet(2, SHORTS, 60);
            for (int i = 0; i < 5; i++) x.put(2, from + i, "h4;b3".charAt(i));
            due("from " + from, x.hall(2, SHORTS, from, 5), 1);
            due("places", x.many(1), 4);
            due("one less", x.hall(2, SHORTS, from, 4), -104);
            due("one more", x.hall(2, SHORTS, from, 6), from == 55 ? INDEX : -105);
            due("one later", x.hall(2, SHORTS, from + 1, 4), -100);
        }
    }

    // ---- promise 2: refusals and faults. In BUSY sheet 1 has five shorts, sheet 2 nothing.

    private static void hallRefusals() {
        says("UNKNOWN; OUTSIDE: lane; CAST (nothing is no CAST); NULL; SIZE: n below 0; INDEX; -100 less it.");
        for (int sheet : beyond(0, 3)) keepsAllButFault("sheet " + sheet, BUSY, x -> x.hall(sheet, SHORTS, 0, 5), UNKNOWN);
        for (int lane : beyond(0, 2)) keepsAllButFault("lane " + lane, BUSY, x -> x.hall(1, lane, 0, 5), OUTSIDE);
        for (int lane : beyond(0, 2)) keepsAllButFault("lane " + lane, NO_HALL, x -> x.hall(1, lane, 0, 5), OUTSIDE);
        due("the last sheet", text(new GumHall(), "h2;s0"), 1);
    }

    private static void hallFaults() {
        says("CAST (nothing is no CAST); NULL; SIZE: n below 0; INDEX; -100 less it.");
        fails("shorts as bytes", BUSY, x -> x.hall(1, BYTES, 0, 5), CAST);
        fails("shorts as ints", BUSY, x -> x.hall(1, INTS, 0, 5), CAST);
        fails("bytes as shorts", BUSY, x -> x.hall(0, SHORTS, 0, 3), CAST);
        fails("bytes as ints", BUSY, x -> x.hall(0, INTS, 0, 3), CAST);
        fails("ints as bytes", BUSY, x -> x.hall(3, BYTES, 0, 11), CAST);
        fails("ints as shorts", BUSY, x -> x.hall(3, SHORTS, 0, 11), CAST);
        for (int lane = 0; lane < 3; lane++) nothingAs(lane);
        fails("n -1", BUSY, x -> x.hall(1, SHORTS, 0, -1), SIZE);
        fails("n far below 0", BUSY, x -> x.hall(1, SHORTS, 0, MIN), SIZE);
        int[][] beyond = {
            {-1, 0}, {-1, 1}, {-1, 5}, {6, 0}, {5, 1}, {0, 6}, {1, 5}, {MIN, 0}, {MAX, 0}, {MIN, MAX}, {MAX, MAX}, {5, MAX},
            {1, MAX}, {MAX, 1},
        };
        for (int[] cells : beyond) {
            fails("i " + cells[0] + ", n " + cells[1], BUSY, x -> x.hall(1, SHORTS, cells[0], cells[1]), INDEX);
        }
        due("all of it", made(BUSY).hall(1, SHORTS, 0, 5), 1);
        due("none behind all", made(BUSY).hall(1, SHORTS, 5, 0), -100);
        fails("none behind none", FULL_HALL, x -> x.hall(1, SHORTS, 1, 0), INDEX);
        keepsAllButFault("none of none", FULL_HALL, x -> x.hall(1, SHORTS, 0, 0), -100);
    }

    private static void nothingAs(int lane) {
        fails("nothing as lane " + lane, BUSY, x -> x.hall(2, lane, 0, 0), NULL);
        fails("lost, as lane " + lane, x -> {
            BUSY.on(x);
            x.lose(1);
        }, x -> x.hall(1, lane, 0, 5), NULL);
    }

    private static void hallOrder() {
        says("of several the first in the order in which a call's line tells them.");
        keepsAllButFault("sheet, all others", BUSY, x -> x.hall(4, 3, -1, -1), UNKNOWN);
        keepsAllButFault("lane, size, index", BUSY, x -> x.hall(1, 3, -1, -1), OUTSIDE);
        keepsAllButFault("lane, null, size, index", BUSY, x -> x.hall(2, -1, -1, -1), OUTSIDE);
        says("Of a call the first that is come to, in the order told; it answers -10 less it");
        fails("cast, size, index", BUSY, x -> x.hall(1, BYTES, -1, -1), CAST);
        fails("cast, index", BUSY, x -> x.hall(1, INTS, 6, 0), CAST);
        fails("cast, wrong text", BUSY, x -> x.hall(1, INTS, 0, 4), CAST);
        fails("null, size, index", BUSY, x -> x.hall(2, BYTES, -1, -1), NULL);
        fails("null, index", BUSY, x -> x.hall(2, INTS, 1, 1), NULL);
        fails("size, index", BUSY, x -> x.hall(1, SHORTS, -1, -1), SIZE);
        fails("size, index above", BUSY, x -> x.hall(1, SHORTS, 6, -1), SIZE);
        fails("index, wrong text", BUSY, x -> x.hall(1, SHORTS, 1, 5), INDEX);
    }

    private static void aTextThatIsNotTaken() {
        says("They change nothing (but fault(), of a call that names FAULTS).");
        for (Build state : new Build[] {BUSY, NO_HALL}) {
            keepsAllButFault("ends too soon", state, x -> x.hall(1, SHORTS, 0, 4), -104);
            keepsAllButFault("no h", state, x -> x.hall(1, SHORTS, 1, 4), -100);
            keepsAllButFault("no codes", state, x -> x.hall(1, SHORTS, 5, 0), -100);
        }
        keepsAllButFault("full hall, no h", FULL_HALL, x -> x.hall(3, INTS, 1, 16), -100);
        keepsAllButFault("full hall, no flavour", FULL_HALL, x -> x.hall(3, INTS, 0, 16), -116);
    }

    private static void aTextThatIsTaken() {
        says("A TEXT that is taken makes all anew: no SITTINGS, MOVES, SCRAPES, READINGS.");
        String[] texts = {"h2;s3", FIVE, "h4;b0;b1"};
        for (String text : texts) {
            alike("behind a full hall, " + text, x -> {
                FULL_HALL.on(x);
                text(x, text);
            }, x -> {
                halfFull(x);
                text(x, text);
            });
            GumHall x = made(FULL_HALL);
            text(x, text);
            due("no fault", x.fault(), 0);
            for (int what = 2; what < 6; what++) due("many " + what, x.many(what), 0);
            due("the first sitting", x.sit(0, 0, 0), 0);
            due("the first move", x.move(0, 1, 0), 0);
            due("the first scrape", x.scrape(0, 0), 0);
            due("the first reading", x.reading(0, 0, 0, 9), 0);
        }
    }

    /** As the full hall in what a TEXT leaves alone: the sheets and TRACE. */
    private static void halfFull(GumHall x) {
        FULL_HALL.on(x);
        x.rise(24);
        x.unmove(6);
        x.unscrape(6);
        x.back(8);
    }

    // ---- promises 3 and 4

    private static void ofPersonEdges() {
        says("Of a PERSON: 0 kind, 1 FLAVOUR. UNKNOWN; OUTSIDE.");
        for (int what = 0; what < 2; what++) {
            int which = what;
            refusedBeyond("person", BUSY, 0, 2, (x, p) -> x.ofPerson(p, which), UNKNOWN);
            refusedBeyond("person", FULL_HALL, 0, 4, (x, p) -> x.ofPerson(p, which), UNKNOWN);
        }
        refusedBeyond("what", BUSY, 0, 1, (x, what) -> x.ofPerson(2, what), OUTSIDE);
        refusedBeyond("person and what", BUSY, 0, 2, (x, both) -> x.ofPerson(both, both), UNKNOWN);
        IntFunction<String> text = flavour -> "h2;s" + flavour + ";f" + flavour + ";b" + flavour;
        for (int flavour = 0; flavour < 4; flavour++) {
            GumHall x = hallOf(text.apply(flavour));
            for (int p = 0; p < 3; p++) {
                due("kind of " + p, x.ofPerson(p, 0), p);
                due("flavour of " + p, x.ofPerson(p, 1), flavour);
            }
        }
        keeps("asking", FULL_HALL, x -> x.ofPerson(4, 1), 0);
    }

    private static void nightsOfGum() {
        says("The GUM a PERSON leaves on a NIGHT. UNKNOWN; OUTSIDE.");
        refusedBeyond("person", BUSY, 0, 2, (x, p) -> x.gum(p, 0), UNKNOWN);
        refusedBeyond("person", FULL_HALL, 0, 4, (x, p) -> x.gum(p, 39), UNKNOWN);
        refusedBeyond("night", BUSY, 0, 39, (x, night) -> x.gum(0, night), OUTSIDE);
        keeps("person and night", BUSY, x -> x.gum(3, 40), UNKNOWN);
        keeps("asking", FULL_HALL, x -> x.gum(2, 39), 5);
    }

    private static void gumOfKinds() {
        says("of a FICKLE one that, and 1 more for each 10 NIGHTS (cut), what is left by 4; of a BITER 4 more than of a FICKLE one (0 .. 7 in all)");
        // Rows of flavours 0 .. 3, columns of nights 0 .. 9, 10 .. 19, 20 .. 29, 30 .. 39.
        int[][] fickle = {{0, 1, 2, 3}, {1, 2, 3, 0}, {2, 3, 0, 1}, {3, 0, 1, 2}};
        for (int flavour = 0; flavour < 4; flavour++) {
            GumHall x = hallOf("h2;s" + flavour + ";f" + flavour + ";b" + flavour);
            for (int night = 0; night < 40; night++) {
                int due = fickle[flavour][night / 10];
                due("sitter " + flavour + " on " + night, x.gum(0, night), flavour);
                due("fickle " + flavour + " on " + night, x.gum(1, night), due);
                due("biter " + flavour + " on " + night, x.gum(2, night), due + 4);
            }
        }
    }
}
