import java.math.BigInteger;

/** The edges of part 5, odds, sheets, parts (promises 25 to 36): a test for each sentence that names one. */
public final class SheetEdges extends Checks {
    public static void main(String[] args) {
        oddsRefusals();
        oddsOfAllHeights();
        oddsOfNights();
        oddsByAllSets();
        sheetRefusals();
        sheetLengths();
        sheetGetsANewRow();
        loseEdges();
        putRefusals();
        cellsAreCutToTheirLane();
        putChangesOneCell();
        cellFaults();
        copyRefusals();
        copyIndexes();
        copyAsTheyWere();
        tellEdges();
        greetEdges();
        asEdges();
        traceWraps();
        faultOfTheLatestCall();
        callsThatNameNoFaults();
        manyEdges();
        end("SheetEdges");
    }

    // ---- promise 25

    private static void oddsRefusals() {
        says("ODDS (which 0 the upper, 1 the lower number). LOST: UNKNOWN: PLACE; OUTSIDE: night, v, which.");
        refusedBeyond("place", BUSY, 0, 2, (x, place) -> x.odds(place, 0, 0, 0), LOST);
        refusedBeyond("place of six", FULL_HALL, 0, 5, (x, place) -> x.odds(place, 39, 0, 1), LOST);
        refusedBeyond("night", BUSY, 0, 39, (x, night) -> x.odds(0, night, 0, 0), LOST);
        refusedBeyond("v", BUSY, 0, 24, (x, v) -> x.odds(0, 39, v, 0), LOST);
        refusedBeyond("which", BUSY, 0, 1, (x, which) -> x.odds(0, 39, 0, which), LOST);
        keeps("no hall", NO_HALL, x -> x.odds(0, 0, 0, 0), LOST);
        keeps("asking", BUSY, x -> x.odds(1, 39, 1, 1), 2);
        keeps("asking", FULL_HALL, x -> x.odds(5, 39, 24, 0), 0);
    }

    private static void oddsOfAllHeights() {
        says("the share of those by which at a PLACE at the end of a NIGHT there are just v LAYERS (0 .. 24).");
        says("Shares are told as upper and lower number (above 0) in least terms.");
        for (int height = 0; height <= 24; height++) {
            GumHall x = hallOf("h2;s0");
            for (int k = 0; k < 24; k++) x.sit(0, k < height ? 1 : 0, k);
            for (int v = 0; v <= 24; v++) {
                BigInteger upper = waysToPick(height, v);
                BigInteger lower = BigInteger.TWO.pow(height);
                BigInteger common = upper.gcd(lower);
                due("upper of " + v + " of " + height, x.odds(1, 39, v, 0), upper.divide(common).longValueExact());
                due("lower of " + v + " of " + height, x.odds(1, 39, v, 1), lower.divide(common).longValueExact());
            }
        }
        GumHall none = hallOf("h6;s0");
        for (int v = 0; v <= 24; v++) {
            due("no sittings, upper of " + v, none.odds(5, 0, v, 0), v == 0 ? 1 : 0);
            due("no sittings, lower of " + v, none.odds(5, 0, v, 1), 1);
        }
    }

    private static BigInteger waysToPick(int all, int some) {
        if (some > all) return BigInteger.ZERO;
        if (some == 0) return BigInteger.ONE;
        return waysToPick(all - 1, some - 1).multiply(BigInteger.valueOf(all)).divide(BigInteger.valueOf(some));
    }

    private static void oddsOfNights() {
        says("ODDS: if each SITTING was, or was not, all such sets alike");
        GumHall x = hallOf("h2;s0;s1");
        x.sit(0, 0, 0);
        x.sit(1, 0, 39);
        due("one of two nights", x.odds(0, 38, 1, 1), 2);
        due("both", x.odds(0, 39, 2, 1), 4);
        due("both", x.odds(0, 39, 1, 0), 1);
        due("both", x.odds(0, 39, 1, 1), 2);
        due("none there", x.odds(1, 39, 0, 0), 1);
        due("none there", x.odds(1, 39, 0, 1), 1);
        x.scrape(0, 39);
        due("scraped ahead of the second", x.odds(0, 39, 2, 0), 0);
        due("scraped ahead of the second", x.odds(0, 39, 0, 1), 2);
        x.move(0, 1, 39);
        due("sat behind the move", x.odds(0, 39, 1, 1), 2);
        due("the chair that was scraped", x.odds(1, 39, 0, 1), 1);
    }

    private static void oddsByAllSets() {
        says("ODDS: if each SITTING was, or was not, all such sets alike");
        GumHall x = hallOf("h3;s0;f1");
        // Each thing stands here in the order in which it counts: on a night a scrape, then a move, then sittings.
        int[][] things = new int[30][];
        int many = 0;
        for (int night = 0; night < 12; night++) {
            if (night == 2 || night == 5) things[many++] = scraped(x, night % 3, night);
            if (night % 3 == 2) things[many++] = moved(x, night / 3 % 2, 2, night);
            things[many++] = sat(x, 0, night % 7 == 6 ? 0 : 1, night);
            things[many++] = sat(x, 1, 2, night);
        }
        due("things", many, 30);
        due("sittings", x.many(2), 24);
        int[][] sets = heightsOfAllSets(things);
        for (int place = 0; place < 3; place++) {
            for (int v = 0; v <= 24; v++) {
                BigInteger upper = BigInteger.valueOf(sets[place][v]);
                BigInteger lower = BigInteger.TWO.pow(24);
                BigInteger common = upper.gcd(lower);
                due("upper of " + v + " at " + place, x.odds(place, 39, v, 0), upper.divide(common).longValueExact());
                due("lower of " + v + " at " + place, x.odds(place, 39, v, 1), lower.divide(common).longValueExact());
            }
        }
    }

    private static int[] scraped(GumHall x, int place, int night) {
        x.scrape(place, night);
        return new int[] {place};
    }

    private static int[] moved(GumHall x, int a, int b, int night) {
        x.move(a, b, night);
        return new int[] {a, b};
    }

    private static int[] sat(GumHall x, int p, int place, int night) {
        return new int[] {place, p, x.sit(p, place, night)};
    }

    /** Of three places: how many of all sets of 24 sittings leave so many layers there, played one by one. */
    private static int[][] heightsOfAllSets(int[][] things) {
        int[][] sets = new int[3][25];
        int[] heights = new int[3];
        for (int set = 0; set < 1 << 24; set++) {
            heights[0] = heights[1] = heights[2] = 0;
            for (int[] thing : things) {
                if (thing.length == 3) heights[thing[0]] += set >> thing[2] & 1;
                if (thing.length == 1) heights[thing[0]] = 0;
                if (thing.length == 2) {
                    int kept = heights[thing[0]];
                    heights[thing[0]] = heights[thing[1]];
                    heights[thing[1]] = kept;
                }
            }
            for (int place = 0; place < 3; place++) sets[place][heights[place]]++;
        }
        return sets;
    }

    // ---- promises 26 and 27

    private static void sheetRefusals() {
        says("A SHEET gets a new row: 1. UNKNOWN; OUTSIDE: lane, n above 60; SIZE.");
        for (int k : beyond(0, 3)) keepsAllButFault("sheet " + k, BUSY, x -> x.sheet(k, BYTES, 1), UNKNOWN);
        for (int lane : beyond(0, 2)) keepsAllButFault("lane " + lane, BUSY, x -> x.sheet(0, lane, 1), OUTSIDE);
        for (int n : new int[] {61, 62, MAX}) keepsAllButFault("n " + n, BUSY, x -> x.sheet(0, INTS, n), OUTSIDE);
        for (int n : new int[] {-1, -2, MIN}) {
            fails("n " + n, BUSY, x -> x.sheet(0, INTS, n), SIZE);
            fails("n " + n + " of nothing", NEW, x -> x.sheet(3, BYTES, n), SIZE);
        }
        says("of several the first in the order in which a call's line tells them.");
        keepsAllButFault("sheet, lane, n above", BUSY, x -> x.sheet(4, 3, 61), UNKNOWN);
        keepsAllButFault("sheet, size", BUSY, x -> x.sheet(-1, 0, -1), UNKNOWN);
        keepsAllButFault("lane, size", BUSY, x -> x.sheet(0, 3, -1), OUTSIDE);
        keepsAllButFault("lane, size", BUSY, x -> x.sheet(0, -1, -1), OUTSIDE);
    }

    private static void sheetLengths() {
        says("SHEETS 0 .. 3 have nothing (at first), or a row of 0 .. 60 numbers (0 at first) of a LANE: 0 bytes, 1 shorts, 2 ints");
        for (int lane = 0; lane < 3; lane++) {
            for (int n : new int[] {0, 1, 59, 60}) {
                GumHall x = new GumHall();
                due("row of " + n, x.sheet(lane + 1, lane, n), 1);
                due("fault", x.fault(), 0);
                if (n > 0) due("the first", x.cell(lane + 1, 0, lane), 0);
                if (n > 0) due("the last", x.cell(lane + 1, n - 1, lane), 0);
                if (n > 0) due("the last is taken", x.put(lane + 1, n - 1, 5), 1);
                due("behind the last", x.put(lane + 1, n, 5), INDEX);
                due("ahead of the first", x.put(lane + 1, -1, 5), INDEX);
                due("a row of " + n + " is something", x.lose(lane + 1), 1);
            }
        }
    }

    private static void sheetGetsANewRow() {
        says("A SHEET gets a new row: 1.");
        int[] lengths = {60, 1, 60, 0, 60};
        GumHall x = new GumHall();
        for (int n : lengths) {
            for (int lane = 0; lane < 3; lane++) {
                due("anew", x.sheet(2, lane, n), 1);
                for (int i = 0; i < n; i++) due("0 at first", x.cell(2, i, lane), 0);
                if (n > 0) x.put(2, 0, 77);
                if (n > 0) x.put(2, n - 1, 78);
            }
            x = again(x, n);
        }
        Build tenth = y -> {
            BUSY.on(y);
            y.sheet(0, INTS, 10);
        };
        alike("whatever it had", tenth, y -> {
            BUSY.on(y);
            y.lose(0);
            y.sheet(0, INTS, 10);
        });
        due("no fault", made(tenth).fault(), 0);
    }

    /** A new object with a row like that of the old one, so that none is used for too many calls. */
    private static GumHall again(GumHall x, int n) {
        GumHall y = new GumHall();
        y.sheet(2, INTS, n);
        for (int i = 0; i < n; i++) y.put(2, i, (int) x.cell(2, i, INTS));
        return y;
    }

    private static void loseEdges() {
        says("A SHEET has nothing: 1; 0: it had nothing. UNKNOWN.");
        refusedBeyond("sheet", BUSY, 0, 3, (x, k) -> x.lose(k), UNKNOWN);
        keeps("it had nothing", BUSY, x -> x.lose(2), 0);
        for (int k : new int[] {0, 1, 3}) {
            GumHall x = made(BUSY);
            x.put(2, 0, 0);
            due("a row", x.lose(k), 1);
            due("names no faults", x.fault(), 1);
            due("then nothing", x.lose(k), 0);
            due("then nothing", x.put(k, 0, 0), NULL);
            due("the hall stays", x.many(0) + x.many(2), 3 + 6);
        }
        due("an empty row", made(FULL_HALL).lose(1), 1);
        alike("as if it never was", x -> {
            NO_HALL.on(x);
            x.sheet(2, INTS, 60);
            x.put(2, 5, 5);
            x.lose(2);
        }, NO_HALL);
    }

    // ---- promises 28 and 29

    private static void putRefusals() {
        says("Cell i of a SHEET becomes v: 1. UNKNOWN; NULL; INDEX.");
        for (int k : beyond(0, 3)) keepsAllButFault("sheet " + k, BUSY, x -> x.put(k, 0, 9), UNKNOWN);
        for (int k : beyond(0, 3)) keepsAllButFault("sheet " + k + " and cell", BUSY, x -> x.put(k, -1, 9), UNKNOWN);
        for (int i : new int[] {0, -1, 60, MIN, MAX}) fails("nothing, cell " + i, BUSY, x -> x.put(2, i, 9), NULL);
        for (int i : beyond(0, 2)) fails("cell " + i, BUSY, x -> x.put(0, i, 9), INDEX);
        for (int i : beyond(0, 59)) fails("cell " + i + " of 60", FULL_HALL, x -> x.put(2, i, 9), INDEX);
        for (int i : new int[] {0, -1, MIN, MAX}) fails("cell " + i + " of none", FULL_HALL, x -> x.put(1, i, 9), INDEX);
    }

    private static void cellsAreCutToTheirLane() {
        says("what comes to a cell of it is cut to its LANE.");
        int[] values = {
            0, 1, -1, 127, 128, -128, -129, 255, 256, -256, 32767, 32768, -32768, -32769, 65535, 65536, MAX, MIN, MAX - 1, MIN + 1,
        };
        for (int v : values) {
            GumHall x = new GumHall();
            for (int lane = 0; lane < 3; lane++) {
                x.sheet(lane, lane, 1);
                due("put " + v, x.put(lane, 0, v), 1);
            }
            due(v + " as a byte", x.cell(0, 0, BYTES), (byte) v);
            due(v + " as a short", x.cell(1, 0, SHORTS), (short) v);
            due(v + " as an int", x.cell(2, 0, INTS), v);
        }
    }

    private static void putChangesOneCell() {
        says("Cell i of a SHEET becomes v: 1.");
        for (int i : new int[] {0, 1, 58, 59}) {
            GumHall x = new GumHall();
            for (int k = 0; k < 4; k++) x.sheet(k, SHORTS, 60);
            x.put(0, 60, 0);
            due("put", x.put(2, i, -7), 1);
            due("fault", x.fault(), 0);
            for (int j = 0; j < 60; j++) due("cell " + j, x.cell(2, j, SHORTS), i == j ? -7 : 0);
            due("another sheet", x.cell(1, i, SHORTS), 0);
            due("another sheet", x.cell(3, i, SHORTS), 0);
        }
    }

    private static void cellFaults() {
        says("Cell i of what a SHEET has, taken as a row of a LANE. LOST: UNKNOWN, OUTSIDE: lane; FAULTS CAST (nothing is no CAST), NULL, INDEX.");
        for (int k : beyond(0, 3)) leaves("sheet " + k, BUSY, x -> x.cell(k, 0, BYTES), LOST, 0);
        for (int lane : beyond(0, 2)) leaves("lane " + lane, BUSY, x -> x.cell(0, 0, lane), LOST, 0);
        leaves("sheet, lane, cell", BUSY, x -> x.cell(4, -1, 3), LOST, 0);
        leaves("lane of nothing", BUSY, x -> x.cell(2, 0, 3), LOST, 0);
        leaves("lane, cell", BUSY, x -> x.cell(0, 3, -1), LOST, 0);
        int[][] unlike = {{0, SHORTS}, {0, INTS}, {1, BYTES}, {1, INTS}, {3, BYTES}, {3, SHORTS}};
        for (int[] row : unlike) {
            for (int i : new int[] {0, -1, 60}) {
                leaves("sheet " + row[0] + " in lane " + row[1], BUSY, x -> x.cell(row[0], i, row[1]), LOST, 2);
            }
        }
        for (int lane = 0; lane < 3; lane++) nothingInLane(lane);
        for (int i : beyond(0, 2)) leaves("cell " + i, BUSY, x -> x.cell(0, i, BYTES), LOST, 3);
        for (int i : beyond(0, 59)) leaves("cell " + i + " of 60", FULL_HALL, x -> x.cell(2, i, INTS), LOST, 3);
        leaves("cell 0 of none", FULL_HALL, x -> x.cell(1, 0, SHORTS), LOST, 3);
        keepsAllButFault("the first", FULL_HALL, x -> x.cell(2, 0, INTS), MAX);
        keepsAllButFault("the last", FULL_HALL, x -> x.cell(2, 59, INTS), MIN);
    }

    private static void nothingInLane(int lane) {
        for (int i : new int[] {0, -1, 60}) leaves("nothing in lane " + lane, BUSY, x -> x.cell(2, i, lane), LOST, 1);
    }

    // ---- promise 30

    /** Sheets 0 and 1 with five and three shorts, sheet 2 with five bytes, sheet 3 with nothing. */
    private static final Build ROWS = x -> {
        write(x, 0, SHORTS, 1, 2, 3, 4, 5);
        write(x, 1, SHORTS, 7, 8, 9);
        write(x, 2, BYTES, 6, 6, 6, 6, 6);
    };

    private static void copyRefusals() {
        says("UNKNOWN; FAULTS NULL (the first, the other), CAST (unlike LANES), INDEX: i, j, n below 0 or beyond.");
        for (int k : beyond(0, 3)) {
            keepsAllButFault("the first is " + k, ROWS, x -> x.copy(k, 0, 1, 0, 1), UNKNOWN);
            keepsAllButFault("the other is " + k, ROWS, x -> x.copy(0, 0, k, 0, 1), UNKNOWN);
            keepsAllButFault("both are " + k, ROWS, x -> x.copy(k, 0, k, 0, 1), UNKNOWN);
            keepsAllButFault("the first is nothing, the other is " + k, ROWS, x -> x.copy(3, -1, k, -1, -1), UNKNOWN);
            keepsAllButFault("the other is nothing, the first is " + k, ROWS, x -> x.copy(k, -1, 3, -1, -1), UNKNOWN);
        }
        fails("the first is nothing", ROWS, x -> x.copy(3, 0, 0, 0, 0), NULL);
        fails("the other is nothing", ROWS, x -> x.copy(0, 0, 3, 0, 0), NULL);
        fails("both are nothing", ROWS, x -> x.copy(3, 0, 3, 0, 0), NULL);
        fails("null, index", ROWS, x -> x.copy(0, -1, 3, -1, -1), NULL);
        fails("null, index", ROWS, x -> x.copy(3, 9, 0, 9, 9), NULL);
        fails("shorts to bytes", ROWS, x -> x.copy(0, 0, 2, 0, 1), CAST);
        fails("bytes to shorts", ROWS, x -> x.copy(2, 0, 0, 0, 1), CAST);
        fails("none of them", ROWS, x -> x.copy(2, 0, 0, 0, 0), CAST);
        fails("cast, index", ROWS, x -> x.copy(0, -1, 2, -1, -1), CAST);
        fails("cast, index", ROWS, x -> x.copy(2, 9, 1, 9, 9), CAST);
        fails("ints to bytes", FULL_HALL, x -> x.copy(2, 0, 0, 0, 1), CAST);
        fails("shorts to ints", FULL_HALL, x -> x.copy(1, 0, 2, 0, 0), CAST);
    }

    private static void copyIndexes() {
        says("INDEX: i, j, n below 0 or beyond.");
        // From i of five cells to j of three.
        int[][] beyond = {
            {-1, 0, 0}, {-1, 0, 1}, {6, 0, 0}, {MIN, 0, 0}, {MAX, 0, 0}, {5, 0, 1}, {4, 0, 2}, {3, 0, 3},
            {0, -1, 0}, {0, -1, 1}, {0, 4, 0}, {0, MIN, 0}, {0, MAX, 0}, {0, 3, 1}, {0, 2, 2}, {0, 0, 4},
            {0, 0, -1}, {1, 1, -1}, {5, 3, -1}, {0, 0, MIN}, {0, 0, MAX}, {1, 1, MAX}, {5, 3, MAX}, {MAX, MAX, MAX},
            {MIN, MIN, MIN}, {MAX, 0, 1}, {0, MAX, 1}, {-1, -1, -1}, {-1, -1, 1}, {0, 0, 6},
        };
        for (int[] c : beyond) {
            fails("from " + c[0] + " to " + c[1] + ", " + c[2], ROWS, x -> x.copy(0, c[0], 1, c[1], c[2]), INDEX);
            fails("from " + c[1] + " to " + c[0] + ", " + c[2], ROWS, x -> x.copy(1, c[1], 0, c[0], c[2]), INDEX);
        }
        says("INDEX (of cells from i on also where i is not 0 .. how many there are, if none of them is taken, too)");
        int[][] none = {{0, 0}, {5, 0}, {0, 3}, {5, 3}};
        for (int[] c : none) keepsAllButFault("none from " + c[0] + " to " + c[1], ROWS, x -> x.copy(0, c[0], 1, c[1], 0), 0);
        keepsAllButFault("none of none", FULL_HALL, x -> x.copy(1, 0, 1, 0, 0), 0);
        fails("none behind none", FULL_HALL, x -> x.copy(1, 1, 1, 0, 0), INDEX);
        fails("none to behind none", FULL_HALL, x -> x.copy(1, 0, 1, 1, 0), INDEX);
        fails("one of none", FULL_HALL, x -> x.copy(1, 0, 1, 0, 1), INDEX);
    }

    private static void copyAsTheyWere() {
        says("n cells of a SHEET from i on go to another one (perhaps the same) from j on, as they were: n.");
        due("all that goes", copied(0, 1, 2, 0, 3, 3, 4, 5), 3);
        due("the last one", copied(0, 1, 4, 2, 1, 7, 8, 5), 1);
        due("the first one", copied(0, 1, 0, 0, 1, 1, 8, 9), 1);
        due("back", copied(1, 0, 0, 2, 3, 1, 2, 7, 8, 9), 3);
        due("onto itself", copied(0, 0, 0, 0, 5, 1, 2, 3, 4, 5), 5);
        due("to the right", copied(0, 0, 0, 1, 4, 1, 1, 2, 3, 4), 4);
        due("to the left", copied(0, 0, 1, 0, 4, 2, 3, 4, 5, 5), 4);
        due("far to the right", copied(0, 0, 0, 4, 1, 1, 2, 3, 4, 1), 1);
        due("two to the right", copied(0, 0, 0, 2, 3, 1, 2, 1, 2, 3), 3);
        GumHall x = new GumHall();
        x.sheet(0, INTS, 60);
        x.sheet(3, INTS, 60);
        for (int i = 0; i < 60; i++) x.put(0, i, MIN + i);
        due("sixty", x.copy(0, 0, 3, 0, 60), 60);
        due("fault", x.fault(), 0);
        for (int i = 0; i < 60; i++) due("cell " + i, x.cell(3, i, INTS), MIN + i);
        due("61", x.copy(0, 0, 3, 0, 61), INDEX);
        x.put(3, 0, 1);
        due("the two are not one", x.cell(0, 0, INTS), MIN);
    }

    private static long copied(int k, int other, int i, int j, int n, int... want) {
        GumHall x = made(ROWS);
        x.put(3, 0, 0);
        long answer = x.copy(k, i, other, j, n);
        due("fault", x.fault(), 0);
        for (int at = 0; at < want.length; at++) due("cell " + at, x.cell(other, at, SHORTS), want[at]);
        due("no cell more", x.cell(other, want.length, SHORTS), LOST);
        int kept = k == other ? 1 - k : k;
        int[] was = kept == 0 ? new int[] {1, 2, 3, 4, 5} : new int[] {7, 8, 9};
        for (int at = 0; at < was.length; at++) due("kept cell " + at, x.cell(kept, at, SHORTS), was[at]);
        return answer;
    }

    // ---- promises 31 to 34

    private static void tellEdges() {
        says("TELLING of a PERSON. UNKNOWN.");
        refusedBeyond("person", BUSY, 0, 2, (x, p) -> x.tell(p), UNKNOWN);
        refusedBeyond("person of five", FULL_HALL, 0, 4, (x, p) -> x.tell(p), UNKNOWN);
        keeps("no person", NO_HALL, x -> x.tell(0), UNKNOWN);
        says("SITTER (1): FLAVOUR. FICKLE (2): what SITTER's gives, and 100. BITER (3): what FICKLE's gives, and what SITTER's gives (FICKLE's left out).");
        for (int flavour = 0; flavour < 4; flavour++) {
            String text = "h2;s" + flavour + ";f" + flavour + ";b" + flavour;
            told(text, 0, flavour, 1);
            told(text, 1, flavour + 100, 31 * 2 + 1);
            told(text, 2, 2 * flavour + 100, ((31 * 3 + 2) * 31 + 1) * 31 + 1);
        }
    }

    private static void told(String text, int p, int want, int trace) {
        GumHall x = hallOf(text);
        x.put(0, 0, 0);
        due("tell " + p, x.tell(p), want);
        due("trace", x.trace(), trace);
        due("fault is kept", x.fault(), 1);
    }

    private static void greetEdges() {
        says("How it is GREETED. UNKNOWN.");
        refusedBeyond("person", BUSY, 0, 2, (x, p) -> x.greet(p), UNKNOWN);
        refusedBeyond("person of five", FULL_HALL, 0, 4, (x, p) -> x.greet(p), UNKNOWN);
        keeps("no person", NO_HALL, x -> x.greet(0), UNKNOWN);
        says("GREETED by a lent body (4): its number; BITERS have their own (5): 70.");
        for (int p = 0; p < 5; p++) {
            for (String kind : new String[] {"s", "f", "b"}) {
                GumHall x = hallOf("h2" + (";" + kind + "3").repeat(5));
                due("greet " + kind + p, x.greet(p), kind.equals("b") ? 70 : p);
                due("trace", x.trace(), kind.equals("b") ? 5 : 4);
            }
        }
    }

    private static void asEdges() {
        says("A PERSON, taken as one of a kind: 1. UNKNOWN; OUTSIDE; CAST: it is none.");
        for (int p : beyond(0, 2)) keepsAllButFault("person " + p, BUSY, x -> x.as(p, 0), UNKNOWN);
        for (int p : beyond(0, 2)) keepsAllButFault("person " + p + " and kind", BUSY, x -> x.as(p, 3), UNKNOWN);
        for (int p : beyond(0, 4)) keepsAllButFault("person " + p + " of five", FULL_HALL, x -> x.as(p, 0), UNKNOWN);
        for (int kind : beyond(0, 2)) {
            keepsAllButFault("sitter as " + kind, BUSY, x -> x.as(0, kind), OUTSIDE);
            keepsAllButFault("biter as " + kind, BUSY, x -> x.as(2, kind), OUTSIDE);
        }
        says("Kinds: 0 SITTER (s); 1 FICKLE (f), a SITTER; 2 BITER (b), a FICKLE.");
        for (int p = 0; p < 3; p++) {
            for (int kind = 0; kind < 3; kind++) asOne(p, kind);
        }
    }

    private static void asOne(int p, int kind) {
        if (kind > p) fails(p + " as " + kind, BUSY, x -> x.as(p, kind), CAST);
        else keepsAllButFault(p + " as " + kind, BUSY, x -> x.as(p, kind), 1);
    }

    private static void traceWraps() {
        says("TRACE (an int that wraps, 0 at first, becomes 31 times it and the number)");
        due("at first", new GumHall().trace(), 0);
        GumHall x = hallOf("h2;s0;f0;b0");
        BigInteger exact = BigInteger.ZERO;
        int[][] bodies = {{1}, {2, 1}, {3, 2, 1, 1}};
        for (int k = 0; k < 60; k++) {
            x.tell(k % 3);
            for (int body : bodies[k % 3]) exact = exact.multiply(BigInteger.valueOf(31)).add(BigInteger.valueOf(body));
            x.greet(k % 3);
            exact = exact.multiply(BigInteger.valueOf(31)).add(BigInteger.valueOf(k % 3 == 2 ? 5 : 4));
            due("behind " + k, x.trace(), exact.intValue());
        }
        due("asked again", x.trace(), exact.intValue());
        keeps("asking", BUSY, y -> y.trace(), made(BUSY).trace());
        due("not 0", made(BUSY).trace() == 0 ? 0 : 1, 1);
    }

    // ---- promises 35 and 36

    private static void faultOfTheLatestCall() {
        says("The FAULT of the latest call that names one: 0: it came to none, or was refused (0 ahead of any).");
        due("ahead of any", new GumHall().fault(), 0);
        Call[] faults = {x -> x.put(2, 0, 0), x -> x.as(0, 2), x -> x.put(0, 3, 0), x -> x.sheet(0, 0, -1)};
        Call[] none = {
            x -> x.hall(1, SHORTS, 0, 5), x -> x.hall(1, SHORTS, 0, 4), x -> x.judge(0, BYTES, 0, 0), x -> x.sheet(2, BYTES, 0),
            x -> x.put(0, 0, 0), x -> x.cell(0, 0, BYTES), x -> x.copy(0, 0, 0, 0, 0), x -> x.as(0, 0),
        };
        Call[] refused = {
            x -> x.hall(9, 0, 0, 0), x -> x.hall(0, 9, 0, 0), x -> x.judge(9, 0, 0, 0), x -> x.judge(0, 9, 0, 0),
            x -> x.judge(0, 0, 0, 21), x -> x.judge(1, SHORTS, 0, 1), x -> x.sheet(9, 0, 0), x -> x.sheet(0, 9, 0),
            x -> x.sheet(0, 0, 61), x -> x.put(9, 0, 0), x -> x.cell(9, 0, 0), x -> x.cell(0, 0, 9), x -> x.copy(9, 0, 0, 0, 0),
            x -> x.copy(0, 0, 9, 0, 0), x -> x.as(9, 0), x -> x.as(0, 9),
        };
        for (int fault = 1; fault <= 4; fault++) {
            Call first = faults[fault - 1];
            faultBehind(fault, first, null);
            for (int k = 0; k < 4; k++) faultBehind(k + 1, first, faults[k]);
            for (Call call : none) faultBehind(0, first, call);
            for (Call call : refused) faultBehind(0, first, call);
        }
        GumHall x = made(NO_HALL);
        x.put(0, 3, 0);
        x.judge(0, BYTES, 0, 0);
        due("refused: no hall", x.fault(), 0);
    }

    private static void faultBehind(int want, Call first, Call then) {
        GumHall x = made(BUSY);
        first.on(x);
        if (then != null) then.on(x);
        due("fault", x.fault(), want);
        due("asked again", x.fault(), want);
    }

    private static void callsThatNameNoFaults() {
        says("They change nothing (but fault(), of a call that names FAULTS).");
        Call[] taken = {
            x -> x.ofPerson(0, 0), x -> x.gum(0, 0), x -> x.sit(0, 0, 39), x -> x.rise(1), x -> x.move(0, 1, 0), x -> x.unmove(1),
            x -> x.scrape(0, 0), x -> x.unscrape(1), x -> x.layers(0, 0), x -> x.under(0, 0, 0, 0), x -> x.chair(0, 0),
            x -> x.beside(0, 1), x -> x.habit(0, 0), x -> x.makers(0, 0), x -> x.reading(0, 0, 0, 0), x -> x.back(1),
            x -> x.sat(0, 0), x -> x.moved(0), x -> x.scraped(0), x -> x.never(), x -> x.look(0, 0, 0), x -> x.odds(0, 0, 0, 0),
            x -> x.lose(0), x -> x.tell(0), x -> x.greet(0), x -> x.trace(), x -> x.many(0),
        };
        Call[] refused = {
            x -> x.ofPerson(9, 0), x -> x.gum(9, 0), x -> x.sit(9, 0, 39), x -> x.rise(99), x -> x.move(9, 1, 0), x -> x.unmove(99),
            x -> x.scrape(9, 0), x -> x.unscrape(99), x -> x.layers(9, 0), x -> x.under(9, 0, 0, 0), x -> x.chair(9, 0),
            x -> x.beside(9, 1), x -> x.habit(9, 0), x -> x.makers(9, 0), x -> x.reading(9, 0, 0, 0), x -> x.back(99),
            x -> x.sat(9, 0), x -> x.moved(99), x -> x.scraped(99), x -> x.look(99, 0, 0), x -> x.odds(9, 0, 0, 0),
            x -> x.lose(9), x -> x.tell(9), x -> x.greet(9), x -> x.many(9),
        };
        for (Call call : taken) faultBehind(2, x -> x.as(0, 2), call);
        for (Call call : refused) faultBehind(2, x -> x.as(0, 2), call);
    }

    private static void manyEdges() {
        says("How many: 0 PERSONS, 1 PLACES, 2 SITTINGS, 3 MOVES, 4 SCRAPES, 5 READINGS (0 all without a HALL). OUTSIDE.");
        refusedBeyond("what", BUSY, 0, 5, (x, what) -> x.many(what), OUTSIDE);
        refusedBeyond("what, no hall", NO_HALL, 0, 5, (x, what) -> x.many(what), OUTSIDE);
        int[] busy = {3, 3, 6, 1, 1, 2};
        int[] full = {5, 6, 24, 6, 6, 8};
        for (int k = 0; k < 6; k++) {
            int what = k;
            keeps("no hall " + k, NO_HALL, x -> x.many(what), 0);
            keeps("busy " + k, BUSY, x -> x.many(what), busy[what]);
            keeps("full " + k, FULL_HALL, x -> x.many(what), full[what]);
        }
    }
}
