/** The edges of part 3, people (promises 14 to 17): a test for each sentence of the document that names one. */
public final class PeopleEdges extends Checks {
    public static void main(String[] args) {
        besideRefusals();
        besideEdges();
        habitRefusals();
        habitEdges();
        makersRefusals();
        makersEdges();
        judgeRefusals();
        judgeFaults();
        judgeOrder();
        cellsOfClaims();
        cellsFromIOn();
        zeroToTwentyClaims();
        claimsAgainstSittings();
        claimsAgainstClaims();
        end("PeopleEdges");
    }

    // ---- promise 14

    private static void besideRefusals() {
        says("BESIDE. UNKNOWN (they are one: so, too).");
        refusedBeyond("the first", BUSY, 0, 2, (x, p) -> x.beside(p, 1), UNKNOWN);
        refusedBeyond("the other", BUSY, 0, 2, (x, p) -> x.beside(1, p), UNKNOWN);
        refusedBeyond("both", BUSY, 0, 2, (x, p) -> x.beside(p, p), UNKNOWN);
        refusedBeyond("the first of five", FULL_HALL, 0, 4, (x, p) -> x.beside(p, 0), UNKNOWN);
        refusedBeyond("the other of five", FULL_HALL, 0, 4, (x, p) -> x.beside(0, p), UNKNOWN);
        for (int one = 0; one < 3; one++) {
            int p = one;
            keeps("they are one: " + p, BUSY, x -> x.beside(p, p), UNKNOWN);
        }
        keeps("asking", BUSY, x -> x.beside(1, 0), 1);
    }

    private static void besideEdges() {
        says("BESIDE: on how many NIGHTS two PERSONS sat at PLACES beside each other.");
        for (int place = 0; place < 6; place++) {
            for (int other = 0; other < 6; other++) {
                GumHall x = hallOf(FIVE);
                x.sit(0, place, 39);
                due("one alone", x.beside(0, 4), 0);
                if (place != other) x.sit(4, other, 39);
                // The ends of the row are no neighbours, nor is a place its own.
                boolean next = place + 1 == other || other + 1 == place;
                due("at " + place + " and " + other, x.beside(0, 4), next ? 1 : 0);
                due("the other way", x.beside(4, 0), next ? 1 : 0);
                due("a third one", x.beside(0, 2), 0);
            }
        }
        GumHall x = hallOf("h2;s0;s1");
        due("none", x.beside(0, 1), 0);
        for (int night = 0; night < 12; night++) {
            x.sit(0, 0, 3 * night);
            due("the other not yet", x.beside(0, 1), night);
            x.sit(1, 1, 3 * night);
            due("a night more", x.beside(0, 1), night + 1);
        }
        x.rise(1);
        due("a night less", x.beside(0, 1), 11);
        x.sit(1, 1, 34);
        due("another night", x.beside(0, 1), 11);
    }

    // ---- promise 15

    private static void habitRefusals() {
        says("HABIT (what 0; NONE: none), how often one sat there (1; 0). UNKNOWN; OUTSIDE.");
        refusedBeyond("person", BUSY, 0, 2, (x, p) -> x.habit(p, 0), UNKNOWN);
        refusedBeyond("person of five", FULL_HALL, 0, 4, (x, p) -> x.habit(p, 1), UNKNOWN);
        refusedBeyond("what", BUSY, 0, 1, (x, what) -> x.habit(0, what), OUTSIDE);
        refusedBeyond("person and what", BUSY, 0, 2, (x, both) -> x.habit(both, both), UNKNOWN);
        keeps("asking", BUSY, x -> x.habit(1, 0), 1);
        keeps("asking", BUSY, x -> x.habit(1, 1), 2);
        GumHall x = hallOf("h2;s0;s1");
        x.sit(0, 1, 0);
        due("none", x.habit(1, 0), NONE);
        due("none", x.habit(1, 1), 0);
    }

    private static void habitEdges() {
        says("HABIT: the PLACE at which one sat the most: of several the least.");
        for (int place = 0; place < 6; place++) {
            GumHall x = hallOf(FIVE);
            x.sit(4, place, 39);
            due("one", x.habit(4, 0), place);
            due("once", x.habit(4, 1), 1);
        }
        GumHall x = hallOf(FIVE);
        for (int place = 5; place >= 0; place--) {
            x.sit(0, place, place);
            due("the least of several", x.habit(0, 0), place);
        }
        x.sit(0, 5, 39);
        due("one more than the others", x.habit(0, 0), 5);
        due("twice", x.habit(0, 1), 2);
        x.sit(0, 3, 30);
        due("the least of two", x.habit(0, 0), 3);
        x.rise(2);
        due("all alike again", x.habit(0, 0), 0);
        GumHall y = hallOf("h2;s0;s1");
        for (int night = 0; night < 24; night++) y.sit(1, 1, night);
        due("24 times", y.habit(1, 1), 24);
        due("24 times", y.habit(1, 0), 1);
    }

    // ---- promise 16

    private static void makersRefusals() {
        says("MAKERS, as a set. OUTSIDE: gum (0 .. 7), night; STATE: there is no HALL.");
        refusedBeyond("gum", BUSY, 0, 7, (x, gum) -> x.makers(gum, 0), OUTSIDE);
        refusedBeyond("night", BUSY, 0, 39, (x, night) -> x.makers(1, night), OUTSIDE);
        refusedBeyond("gum, no hall", NO_HALL, 0, 7, (x, gum) -> x.makers(gum, 0), OUTSIDE);
        refusedBeyond("night, no hall", NO_HALL, 0, 39, (x, night) -> x.makers(0, night), OUTSIDE);
        for (int gum : new int[] {0, 7}) {
            for (int night : new int[] {0, 39}) keeps("no hall", NO_HALL, x -> x.makers(gum, night), STATE);
        }
        keeps("asking", BUSY, x -> x.makers(1, 39), 1);
    }

    private static void makersEdges() {
        says("MAKERS of a GUM on a NIGHT: PERSONS who leave such a one on it.");
        GumHall x = hallOf("h2;s0;f0;f0;s0;f0");
        due("all five", x.makers(0, 9), 31);
        due("those who stay", x.makers(0, 10), 1 + 8);
        due("those who don't", x.makers(1, 10), 2 + 4 + 16);
        due("nobody", x.makers(1, 9), 0);
        due("nobody bites", x.makers(4, 9), 0);
        GumHall y = hallOf("h2;b3;b3;b3;b3;b3");
        due("all five", y.makers(7, 0), 31);
        due("all five later", y.makers(4, 19), 31);
        due("all five at last", y.makers(6, 39), 31);
        due("nobody", y.makers(7, 10), 0);
        due("no fickle one", y.makers(3, 0), 0);
        due("one alone", hallOf("h2;s0").makers(0, 0), 1);
    }

    // ---- promise 17: refusals and faults. In BUSY sheet 0 has three bytes (1, 2, 3), sheet 1 five shorts.

    private static void judgeRefusals() {
        says("CLAIMS by n times three such cells: JUDGED; NONE: all may be. UNKNOWN: SHEET; OUTSIDE: lane, n (0 .. 20); STATE: there is no HALL;");
        for (int sheet : beyond(0, 3)) keepsAllButFault("sheet " + sheet, BUSY, x -> x.judge(sheet, BYTES, 0, 1), UNKNOWN);
        for (int lane : beyond(0, 2)) keepsAllButFault("lane " + lane, BUSY, x -> x.judge(0, lane, 0, 1), OUTSIDE);
        for (int n : beyond(0, 20)) keepsAllButFault("n " + n, BUSY, x -> x.judge(0, BYTES, 0, n), OUTSIDE);
        for (int n : beyond(0, 20)) keepsAllButFault("n " + n, NO_HALL, x -> x.judge(0, BYTES, 0, n), OUTSIDE);
        for (int n = 0; n < 2; n++) {
            int claims = n;
            keepsAllButFault("no hall, n " + n, NO_HALL, x -> x.judge(0, BYTES, 0, claims), STATE);
        }
        keepsAllButFault("asking", BUSY, x -> x.judge(0, BYTES, 0, 1), NONE);
        keepsAllButFault("asking", FULL_HALL, x -> x.judge(0, BYTES, 0, 2), NONE);
    }

    private static void judgeFaults() {
        says("STATE: there is no HALL; CAST; NULL; INDEX; OUTSIDE: a cell is no PERSON, no PLACE, no NIGHT.");
        for (int n = 0; n < 2; n++) {
            int claims = n;
            fails("bytes as shorts", BUSY, x -> x.judge(0, SHORTS, 0, claims), CAST);
            fails("bytes as ints", BUSY, x -> x.judge(0, INTS, 0, claims), CAST);
            fails("shorts as bytes", BUSY, x -> x.judge(1, BYTES, 0, claims), CAST);
            fails("ints as shorts", BUSY, x -> x.judge(3, SHORTS, 0, claims), CAST);
            for (int lane = 0; lane < 3; lane++) nothingAs(lane, claims);
        }
        int[][] beyond = {
            {-1, 0}, {-1, 1}, {4, 0}, {1, 1}, {0, 2}, {3, 1}, {MIN, 0}, {MAX, 0}, {MAX, 20}, {MIN, 20}, {MAX - 2, 1}, {0, 20},
        };
        for (int[] cells : beyond) {
            fails("i " + cells[0] + ", n " + cells[1], BUSY, x -> x.judge(0, BYTES, cells[0], cells[1]), INDEX);
        }
        keepsAllButFault("none behind all", BUSY, x -> x.judge(0, BYTES, 3, 0), NONE);
        fails("none behind none", FULL_HALL, x -> x.judge(1, SHORTS, 1, 0), INDEX);
        keepsAllButFault("none of none", FULL_HALL, x -> x.judge(1, SHORTS, 0, 0), NONE);
    }

    private static void nothingAs(int lane, int n) {
        fails("nothing as lane " + lane, BUSY, x -> x.judge(2, lane, 0, n), NULL);
    }

    private static void judgeOrder() {
        says("of several the first in the order in which a call's line tells them.");
        keepsAllButFault("sheet, lane, n, no hall", NO_HALL, x -> x.judge(4, 3, -1, 21), UNKNOWN);
        keepsAllButFault("lane, no hall, null, index", NO_HALL, x -> x.judge(2, 3, -1, 1), OUTSIDE);
        keepsAllButFault("n, no hall, null, index", NO_HALL, x -> x.judge(2, BYTES, -1, 21), OUTSIDE);
        keepsAllButFault("n, cast, index", BUSY, x -> x.judge(0, INTS, -1, -1), OUTSIDE);
        keepsAllButFault("no hall, cast", NO_HALL, x -> x.judge(0, INTS, 0, 1), STATE);
        keepsAllButFault("no hall, null", NO_HALL, x -> x.judge(2, INTS, 0, 1), STATE);
        keepsAllButFault("no hall, index", NO_HALL, x -> x.judge(0, BYTES, 1, 1), STATE);
        fails("cast, index", BUSY, x -> x.judge(0, INTS, -1, 1), CAST);
        fails("cast, cells", BUSY, x -> x.judge(1, BYTES, 0, 1), CAST);
        fails("null, index", BUSY, x -> x.judge(2, BYTES, -1, 20), NULL);
        fails("index, cells", BUSY, x -> x.judge(1, SHORTS, 0, 2), INDEX);
        keepsAllButFault("cells", BUSY, x -> x.judge(1, SHORTS, 0, 1), OUTSIDE);
    }

    // ---- promise 17: claims

    private static Build claims(String text, int... cells) {
        return x -> {
            text(x, text);
            x.sit(0, 0, 7);
            write(x, 2, INTS, cells);
        };
    }

    private static void cellsOfClaims() {
        says("OUTSIDE: a cell is no PERSON, no PLACE, no NIGHT.");
        int[] most = {4, 5, 39};
        // Each cell of the first, a middle and the last of three claims.
        for (int cell = 0; cell < 9; cell++) {
            for (int bad : beyond(0, most[cell % 3])) oneCell(cell, bad, OUTSIDE);
            oneCell(cell, 0, NONE);
            oneCell(cell, most[cell % 3], NONE);
        }
        due("behind one that can't be", made(claims(FIVE, 0, 1, 7, 5, 0, 0)).judge(2, INTS, 0, 2), OUTSIDE);
        due("that one alone", made(claims(FIVE, 0, 1, 7, 5, 0, 0)).judge(2, INTS, 0, 1), 0);
    }

    private static void oneCell(int cell, int value, int want) {
        // Claims that don't meet whatever one cell is: other persons at other places on other nights.
        int[] cells = {1, 1, 11, 2, 2, 12, 3, 3, 13};
        cells[cell] = value;
        keepsAllButFault("cell " + cell + " is " + value, claims(FIVE, cells), x -> x.judge(2, INTS, 0, 3), want);
    }

    private static void cellsFromIOn() {
        says("CLAIMS by n times three such cells");
        // What stands ahead of i and behind the last claim does not count.
        Build state = claims(FIVE, -1, 1, 1, 8, 2, 2, 8, -1);
        due("from 1 on", made(state).judge(2, INTS, 1, 2), NONE);
        due("one cell earlier", made(state).judge(2, INTS, 0, 2), OUTSIDE);
        due("one cell later", made(state).judge(2, INTS, 2, 2), OUTSIDE);
        due("to the last", made(state).judge(2, INTS, 5, 1), OUTSIDE);
        due("beyond the last", made(state).judge(2, INTS, 6, 1), INDEX);
        due("none at the end", made(state).judge(2, INTS, 8, 0), NONE);
        due("none beyond it", made(state).judge(2, INTS, 9, 0), INDEX);
        GumHall bytes = hallOf(FIVE);
        write(bytes, 0, BYTES, 256, 512, 256 + 39);
        due("cells are cut to their lane", bytes.judge(0, BYTES, 0, 1), NONE);
    }

    private static void zeroToTwentyClaims() {
        says("OUTSIDE: lane, n (0 .. 20)");
        int[] cells = new int[60];
        for (int claim = 0; claim < 20; claim++) cells[3 * claim + 2] = claim;
        Build may = claims(FIVE, cells);
        for (int n = 0; n <= 20; n++) due(n + " that may be", made(may).judge(2, INTS, 0, n), NONE);
        due("from 1 on", made(may).judge(2, INTS, 1, 20), INDEX);
        due("21", made(may).judge(2, INTS, 0, 21), OUTSIDE);
        due("none at the end", made(may).judge(2, INTS, 60, 0), NONE);
        due("none beyond it", made(may).judge(2, INTS, 61, 0), INDEX);
        cells[3 * 19] = 1;
        cells[3 * 19 + 2] = 7;
        Build last = claims(FIVE, cells);
        due("the last one can't be", made(last).judge(2, INTS, 0, 20), 19);
        due("all but it", made(last).judge(2, INTS, 0, 19), NONE);
        due("it alone", made(last).judge(2, INTS, 57, 1), 0);
    }

    private static void claimsAgainstSittings() {
        says("the first that can't be with all SITTINGS and all CLAIMS ahead of it: its PERSON sat elsewhere on that NIGHT, or another one there (what is said twice may be).");
        due("said by a sitting", made(claims(FIVE, 0, 0, 7)).judge(2, INTS, 0, 1), NONE);
        due("elsewhere", made(claims(FIVE, 0, 1, 7)).judge(2, INTS, 0, 1), 0);
        due("another one there", made(claims(FIVE, 1, 0, 7)).judge(2, INTS, 0, 1), 0);
        due("another one elsewhere", made(claims(FIVE, 1, 1, 7)).judge(2, INTS, 0, 1), NONE);
        due("elsewhere a night before", made(claims(FIVE, 0, 1, 6)).judge(2, INTS, 0, 1), NONE);
        due("another one there a night later", made(claims(FIVE, 1, 0, 8)).judge(2, INTS, 0, 1), NONE);
        GumHall x = made(claims(FIVE, 1, 0, 7));
        x.rise(1);
        due("the sitting is taken back", x.judge(2, INTS, 0, 1), NONE);
        GumHall full = made(FULL_HALL);
        write(full, 0, BYTES, 3, 0, 33, 4, 5, 33, 3, 5, 33);
        due("against the last of 24", full.judge(0, BYTES, 0, 1), 0);
        due("another one there, of 24", full.judge(0, BYTES, 3, 1), 0);
        due("the last of 24 again", full.judge(0, BYTES, 6, 1), NONE);
        write(full, 0, BYTES, 3, 5, 34);
        due("one more than 24", full.judge(0, BYTES, 0, 1), NONE);
        write(full, 0, BYTES, 0, 0, 0);
        due("the first of 24 again", full.judge(0, BYTES, 0, 1), NONE);
    }

    private static void claimsAgainstClaims() {
        says("all CLAIMS ahead of it");
        int[] twice = {1, 1, 8, 1, 1, 8};
        int[] elsewhere = {1, 1, 8, 1, 2, 8};
        int[] there = {1, 1, 8, 2, 1, 8};
        int[] far = {1, 1, 8, 2, 2, 9, 3, 3, 10, 1, 2, 8};
        due("said twice", made(claims(FIVE, twice)).judge(2, INTS, 0, 2), NONE);
        due("elsewhere", made(claims(FIVE, elsewhere)).judge(2, INTS, 0, 2), 1);
        due("another one there", made(claims(FIVE, there)).judge(2, INTS, 0, 2), 1);
        due("by one far ahead", made(claims(FIVE, far)).judge(2, INTS, 0, 4), 3);
        due("it stands ahead of i", made(claims(FIVE, far)).judge(2, INTS, 3, 3), NONE);
        due("the first of two that can't be", made(claims(FIVE, 0, 1, 7, 0, 2, 7)).judge(2, INTS, 0, 2), 0);
        due("the earlier does not count what follows", made(claims(FIVE, 1, 1, 8, 0, 0, 7, 1, 3, 8)).judge(2, INTS, 0, 2), NONE);
    }
}
