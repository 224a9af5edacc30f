/** The edges that the document's terms name for many calls at once: refusals, faults, sets, nights. */
public final class TermEdges extends Checks {
    public static void main(String[] args) {
        numbersOfRefusals();
        numbersOfFaults();
        faultsInOrder();
        lostWhereALongIsAnswered();
        setsAreBits();
        nightsFrom0To39();
        answersAreNoRefusals();
        nothingStaysOfALargerHall();
        manyCallsOnOneObject();
        end("TermEdges");
    }

    private static void numbersOfRefusals() {
        says("REFUSALS: UNKNOWN (there is no such PERSON, PLACE, SHEET, place in a row), OUTSIDE (another number is not as told), STATE (as told), FULL");
        keeps("no such person", BUSY, x -> x.gum(3, 0), -1);
        keeps("no such place", BUSY, x -> x.chair(3, 0), -1);
        keeps("no such sheet", BUSY, x -> x.lose(4), -1);
        keeps("no such place in a row", BUSY, x -> x.under(0, 0, -1, 0), -1);
        keeps("another number", BUSY, x -> x.gum(0, 40), -2);
        keeps("state", NO_HALL, x -> x.never(), -3);
        keeps("full", FULL_HALL, x -> x.scrape(0, 0), -4);
        says("NONE is -9.");
        keeps("none", BUSY, x -> x.under(0, 0, 0, 0), -9);
    }

    private static void numbersOfFaults() {
        says("FAULTS are the machine's: 1 NULL (there is nothing), 2 CAST (it is of another LANE, kind), 3 INDEX");
        leaves("nothing", BUSY, x -> x.put(2, 0, 0), -11, 1);
        leaves("another lane", BUSY, x -> x.copy(0, 0, 1, 0, 0), -12, 2);
        leaves("another kind", BUSY, x -> x.as(1, 2), -12, 2);
        leaves("index", BUSY, x -> x.put(0, 3, 0), -13, 3);
        says("4 SIZE (a length below 0).");
        leaves("size", BUSY, x -> x.sheet(2, 0, -1), -14, 4);
        leaves("size", BUSY, x -> x.hall(1, SHORTS, 0, -1), -14, 4);
    }

    private static void faultsInOrder() {
        says("Of a call the first that is come to, in the order told; it answers -10 less it (LOST, where a long is answered, as for refusals) and changes nothing; fault() tells it.");
        leaves("cast of size and index", BUSY, x -> x.hall(1, BYTES, -1, -1), -12, 2);
        leaves("null of size and index", BUSY, x -> x.hall(2, BYTES, -1, -1), -11, 1);
        leaves("size of index", BUSY, x -> x.hall(1, SHORTS, -1, -1), -14, 4);
        leaves("null of cast and index", BUSY, x -> x.copy(2, -1, 0, -1, -1), -11, 1);
        leaves("cast of index", BUSY, x -> x.copy(0, -1, 1, -1, -1), -12, 2);
        leaves("null of index", BUSY, x -> x.put(2, -1, 0), -11, 1);
    }

    private static void lostWhereALongIsAnswered() {
        says("(LOST, where a long is answered, as for refusals)");
        leaves("unknown", BUSY, x -> x.cell(4, 0, 0), Long.MIN_VALUE, 0);
        leaves("outside", BUSY, x -> x.cell(0, 0, 3), Long.MIN_VALUE, 0);
        leaves("null", BUSY, x -> x.cell(2, 0, 0), Long.MIN_VALUE, 1);
        leaves("cast", BUSY, x -> x.cell(0, 0, 1), Long.MIN_VALUE, 2);
        leaves("index", BUSY, x -> x.cell(0, 3, 0), Long.MIN_VALUE, 3);
        keeps("unknown", BUSY, x -> x.odds(3, 0, 0, 0), Long.MIN_VALUE);
        keeps("outside", BUSY, x -> x.odds(0, 0, 25, 0), Long.MIN_VALUE);
        GumHall x = new GumHall();
        write(x, 0, INTS, MIN);
        due("the least int is not lost", x.cell(0, 0, INTS), MIN);
        due("no fault", x.fault(), 0);
    }

    private static void setsAreBits() {
        says("Sets are told as bits (bit k for number k).");
        for (int p = 0; p < 5; p++) {
            StringBuilder text = new StringBuilder("h2");
            for (int q = 0; q < 5; q++) text.append(q == p ? ";s3" : ";s0");
            GumHall x = hallOf(text.toString());
            due("makers: " + p, x.makers(3, 0), 1 << p);
            x.reading(1, 39, 0, 3);
            due("sat: " + p, x.sat(1, 39), 1 << p);
        }
        GumHall x = hallOf(FIVE);
        for (int place = 0; place < 5; place++) x.sit(place, place, 0);
        x.reading(4, 39, 0, 9);
        due("scraped: place 4", x.scraped(1), 16);
        due("never: sitting 4", x.never(), 16);
        due("the empty set", x.sat(0, 39), 0);
    }

    /** Each call that takes a night, at places and persons that are there. */
    private static final CallBy[] BY_NIGHT = {
        (x, night) -> x.gum(0, night), (x, night) -> x.sit(0, 0, night), (x, night) -> x.move(0, 1, night),
        (x, night) -> x.scrape(0, night), (x, night) -> x.layers(0, night), (x, night) -> x.under(0, night, 0, 0),
        (x, night) -> x.chair(0, night), (x, night) -> x.makers(0, night), (x, night) -> x.reading(0, night, 0, 9),
        (x, night) -> x.sat(0, night), (x, night) -> x.moved(night), (x, night) -> x.scraped(night),
        (x, night) -> x.look(night, 0, 0), (x, night) -> x.look(0, night, 0),
    };

    private static void nightsFrom0To39() {
        says("NIGHTS are 0 .. 39.");
        for (int call = 0; call < BY_NIGHT.length; call++) {
            refusedBeyond("call " + call, BUSY, 0, 39, BY_NIGHT[call], OUTSIDE);
            for (int night : new int[] {0, 39}) {
                GumHall x = hallOf("h2;s0");
                due("call " + call + " takes " + night, BY_NIGHT[call].on(x, night) == OUTSIDE ? 0 : 1, 1);
            }
        }
        refusedBeyond("odds", BUSY, 0, 39, (x, night) -> x.odds(0, night, 0, 0), LOST);
        due("odds take 0", hallOf("h2;s0").odds(0, 0, 0, 0), 1);
        due("odds take 39", hallOf("h2;s0").odds(0, 39, 0, 0), 1);
    }

    private static void answersAreNoRefusals() {
        says("fault() tells it.");
        GumHall x = new GumHall();
        write(x, 0, INTS, UNKNOWN, OUTSIDE, STATE, FULL, NONE, NULL, CAST, INDEX, SIZE);
        int[] told = {-1, -2, -3, -4, -9, -11, -12, -13, -14};
        for (int i = 0; i < told.length; i++) {
            due("a cell like a refusal", x.cell(0, i, INTS), told[i]);
            due("no fault", x.fault(), 0);
        }
    }

    private static void nothingStaysOfALargerHall() {
        says("A TEXT that is taken makes all anew");
        GumHall x = made(FULL_HALL);
        text(x, "h2;b3");
        for (int p : new int[] {1, 2, 4}) {
            due("kind of " + p, x.ofPerson(p, 0), UNKNOWN);
            due("gum of " + p, x.gum(p, 0), UNKNOWN);
            due("sit " + p, x.sit(p, 0, 0), UNKNOWN);
            due("beside " + p, x.beside(0, p), UNKNOWN);
            due("habit of " + p, x.habit(p, 0), UNKNOWN);
            due("tell of " + p, x.tell(p), UNKNOWN);
            due("greet of " + p, x.greet(p), UNKNOWN);
            due("as " + p, x.as(p, 0), UNKNOWN);
        }
        for (int place : new int[] {2, 3, 5}) {
            due("chair at " + place, x.chair(place, 0), UNKNOWN);
            due("sit at " + place, x.sit(0, place, 0), UNKNOWN);
            due("move to " + place, x.move(0, place, 0), UNKNOWN);
            due("sat at " + place, x.sat(place, 0), UNKNOWN);
        }
        due("makers", x.makers(7, 0), 1);
        due("sat", x.sat(0, 0), 1);
        due("scraped", x.scraped(0), 3);
        due("group", x.look(0, 39, 1), 1);
        write(x, 0, BYTES, 1, 0, 0, 0, 2, 0);
        due("a claim of person 1", x.judge(0, BYTES, 0, 1), OUTSIDE);
        due("a claim at place 2", x.judge(0, BYTES, 3, 1), OUTSIDE);
    }

    private static void manyCallsOnOneObject() {
        about("\"An object is used for at most 512 calls after it has been made\"");
        GumHall x = new GumHall();
        text(x, "h2;s0");
        int calls = 7;
        for (int round = 0; calls + 3 <= 512; round++) {
            due("round " + round, x.sit(0, 1, 39), 0);
            due("round " + round, x.layers(1, 39), 1);
            due("round " + round, x.rise(1), 0);
            calls += 3;
        }
        due("the 512th", x.layers(1, 39), 0);
    }
}
