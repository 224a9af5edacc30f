/** The edges of part 2, nights (promises 5 to 13): a test for each sentence of the document that names one. */
public final class NightEdges extends Checks {
    public static void main(String[] args) {
        twentyFourSittings();
        onePlaceANight();
        sitRefusals();
        sitOrder();
        riseEdges();
        sixMoves();
        moveRefusals();
        unmoveEdges();
        sixScrapes();
        scrapeRefusals();
        unscrapeEdges();
        chairsChangePlaces();
        scrapedChairs();
        orderWithinANight();
        nightByNight();
        layersEdges();
        underEdges();
        layersFromTheOldest();
        chairEdges();
        end("NightEdges");
    }

    // ---- promises 5 and 6

    private static void twentyFourSittings() {
        says("SITTINGS, 24 at most, numbered by how many there are");
        GumHall x = hallOf("h2;s0;s1");
        for (int k = 0; k < 24; k++) {
            due("ahead of " + k, x.many(2), k);
            due("sitting " + k, x.sit(0, k % 2, 39 - k), k);
        }
        due("24", x.many(2), 24);
        keeps("the 25th", FULL_HALL, y -> y.sit(0, 0, 39), FULL);
        keeps("the 25th, at the ends", FULL_HALL, y -> y.sit(4, 5, 38), FULL);
        due("one less", x.rise(1), 23);
        due("the 24th again", x.sit(1, 1, 0), 23);
        due("the 25th again", x.sit(1, 1, 1), FULL);
    }

    private static void onePlaceANight() {
        says("a PERSON sat at a PLACE on a NIGHT: one PLACE a NIGHT for each, one PERSON for each PLACE.");
        Build one = x -> {
            text(x, "h3;s0;s1;s2");
            x.sit(0, 0, 7);
        };
        keeps("the same again", one, x -> x.sit(0, 0, 7), STATE);
        keeps("the same one elsewhere", one, x -> x.sit(0, 1, 7), STATE);
        keeps("the same one far off", one, x -> x.sit(0, 2, 7), STATE);
        keeps("another one there", one, x -> x.sit(1, 0, 7), STATE);
        keeps("the last one there", one, x -> x.sit(2, 0, 7), STATE);
        due("another one elsewhere", made(one).sit(1, 1, 7), 1);
        due("the same one a night before", made(one).sit(0, 0, 6), 1);
        due("the same one a night later", made(one).sit(0, 1, 8), 1);
        due("another one there a night later", made(one).sit(1, 0, 8), 1);
        GumHall x = made(one);
        due("a full row", x.sit(1, 2, 7), 1);
        due("a full row", x.sit(2, 1, 7), 2);
        due("taken back", x.rise(3), 0);
        due("then it may be", x.sit(1, 0, 7), 0);
    }

    private static void sitRefusals() {
        says("A SITTING: its number. UNKNOWN: PERSON, PLACE; OUTSIDE: night;");
        refusedBeyond("person", BUSY, 0, 2, (x, p) -> x.sit(p, 0, 39), UNKNOWN);
        refusedBeyond("place", BUSY, 0, 2, (x, place) -> x.sit(0, place, 39), UNKNOWN);
        refusedBeyond("night", BUSY, 0, 39, (x, night) -> x.sit(0, 0, night), OUTSIDE);
        refusedBeyond("person of five", FULL_HALL, 0, 4, (x, p) -> x.sit(p, 0, 39), UNKNOWN);
        refusedBeyond("place of six", FULL_HALL, 0, 5, (x, place) -> x.sit(0, place, 39), UNKNOWN);
        refusedBeyond("night", FULL_HALL, 0, 39, (x, night) -> x.sit(0, 0, night), OUTSIDE);
        GumHall x = hallOf(FIVE);
        due("least", x.sit(0, 0, 0), 0);
        due("most", x.sit(4, 5, 39), 1);
        due("its gum", x.under(5, 39, 0, 0), 3);
    }

    private static void sitOrder() {
        says("UNKNOWN: PERSON, PLACE; OUTSIDE: night; STATE: the PERSON sat on it already, or another one there; FULL.");
        keeps("person, place, night", FULL_HALL, x -> x.sit(5, 6, 40), UNKNOWN);
        keeps("person, night", BUSY, x -> x.sit(3, 0, -1), UNKNOWN);
        keeps("place, night", BUSY, x -> x.sit(0, -1, 40), UNKNOWN);
        keeps("place, the person sat already", BUSY, x -> x.sit(0, 3, 1), UNKNOWN);
        keeps("person, another one there", BUSY, x -> x.sit(-1, 0, 1), UNKNOWN);
        keeps("person, full", FULL_HALL, x -> x.sit(5, 0, 39), UNKNOWN);
        keeps("place, full", FULL_HALL, x -> x.sit(0, 6, 39), UNKNOWN);
        keeps("night, full", FULL_HALL, x -> x.sit(0, 0, 40), OUTSIDE);
        keeps("sat already, full", FULL_HALL, x -> x.sit(0, 2, 0), STATE);
        keeps("another one there, full", FULL_HALL, x -> x.sit(4, 0, 0), STATE);
    }

    private static void riseEdges() {
        says("The last k SITTINGS (0 .. as many as there are) are taken back: how many are left. OUTSIDE.");
        takesBack((x, k) -> x.rise(k), 6, 24);
        takesBackTheLast((x, k) -> x.rise(k), 24, NightEdges::sitBackwards);
        for (int k = 0; k <= 24; k++) {
            GumHall x = made(FULL_HALL);
            x.rise(k);
            due("left", x.many(2), 24 - k);
            due("others stay", x.many(3) + x.many(4) + x.many(5), 6 + 6 + 8);
        }
    }

    /** Later numbers on earlier nights: to take back goes by numbers. */
    private static void sitBackwards(GumHall x, int n) {
        text(x, "h3;s0;f1;b2");
        x.move(0, 2, 20);
        x.scrape(1, 25);
        x.reading(0, 39, 0, 0);
        for (int k = 0; k < n; k++) x.sit(k % 3, k % 2, 39 - k);
    }

    // ---- promises 7 and 8

    private static void sixMoves() {
        says("MOVES, 6 at most, numbered likewise");
        GumHall x = hallOf("h2;s0");
        for (int k = 0; k < 6; k++) {
            due("ahead of " + k, x.many(3), k);
            due("move " + k, x.move(k % 2, 1 - k % 2, 39 - k), k);
        }
        keeps("the seventh", FULL_HALL, y -> y.move(0, 1, 0), FULL);
        keeps("the seventh, at the ends", FULL_HALL, y -> y.move(5, 4, 39), FULL);
        due("one less", x.unmove(1), 5);
        due("the sixth again", x.move(0, 1, 0), 5);
        due("the seventh", x.move(0, 1, 0), FULL);
    }

    private static void moveRefusals() {
        says("A MOVE: its number. UNKNOWN: PLACES (they are one: so, too); OUTSIDE: night; FULL.");
        refusedBeyond("a", BUSY, 0, 2, (x, a) -> x.move(a, 1, 0), UNKNOWN);
        refusedBeyond("b", BUSY, 0, 2, (x, b) -> x.move(1, b, 0), UNKNOWN);
        refusedBeyond("both", BUSY, 0, 2, (x, both) -> x.move(both, both, 0), UNKNOWN);
        refusedBeyond("night", BUSY, 0, 39, (x, night) -> x.move(0, 2, night), OUTSIDE);
        refusedBeyond("a of six", FULL_HALL, 0, 5, (x, a) -> x.move(a, 1, 0), UNKNOWN);
        refusedBeyond("b of six", FULL_HALL, 0, 5, (x, b) -> x.move(1, b, 0), UNKNOWN);
        refusedBeyond("night, full", FULL_HALL, 0, 39, (x, night) -> x.move(0, 5, night), OUTSIDE);
        refusedBeyond("a and night, full", FULL_HALL, 0, 5, (x, a) -> x.move(a, 0, 40), UNKNOWN);
        refusedBeyond("b and night, full", FULL_HALL, 0, 5, (x, b) -> x.move(0, b, -1), UNKNOWN);
        for (int one = 0; one < 3; one++) {
            int place = one;
            keeps("one place " + place, BUSY, x -> x.move(place, place, 5), UNKNOWN);
            keeps("one place and night " + place, BUSY, x -> x.move(place, place, 40), UNKNOWN);
            keeps("one place and full " + place, FULL_HALL, x -> x.move(place, place, 5), UNKNOWN);
        }
        GumHall x = hallOf(FIVE);
        due("least", x.move(0, 5, 0), 0);
        due("most", x.move(5, 0, 39), 1);
        due("the same again", x.move(5, 0, 39), 2);
    }

    private static void unmoveEdges() {
        says("The last k MOVES are taken back: how many are left. OUTSIDE.");
        takesBack((x, k) -> x.unmove(k), 1, 6);
        takesBackTheLast((x, k) -> x.unmove(k), 6, NightEdges::moveBackwards);
    }

    private static void moveBackwards(GumHall x, int n) {
        text(x, "h4;s0;f1;b2");
        for (int k = 0; k < 4; k++) x.sit(k % 3, k, 3 * k);
        x.scrape(1, 5);
        x.reading(0, 39, 0, 0);
        for (int k = 0; k < n; k++) x.move(k % 4, (k + 1) % 4, 12 - 2 * k);
    }

    // ---- promises 9 and 10

    private static void sixScrapes() {
        says("SCRAPES, 6 at most");
        GumHall x = hallOf("h2;s0");
        for (int k = 0; k < 6; k++) {
            due("ahead of " + k, x.many(4), k);
            due("scrape " + k, x.scrape(k % 2, 39 - k), k);
        }
        keeps("the seventh", FULL_HALL, y -> y.scrape(0, 0), FULL);
        keeps("the seventh, at the ends", FULL_HALL, y -> y.scrape(5, 39), FULL);
        due("one less", x.unscrape(1), 5);
        due("the sixth again", x.scrape(1, 0), 5);
        due("the seventh", x.scrape(1, 0), FULL);
    }

    private static void scrapeRefusals() {
        says("A SCRAPE: its number. UNKNOWN: PLACE; OUTSIDE: night; FULL.");
        refusedBeyond("place", BUSY, 0, 2, (x, place) -> x.scrape(place, 0), UNKNOWN);
        refusedBeyond("night", BUSY, 0, 39, (x, night) -> x.scrape(0, night), OUTSIDE);
        refusedBeyond("place of six", FULL_HALL, 0, 5, (x, place) -> x.scrape(place, 39), UNKNOWN);
        refusedBeyond("place and night, full", FULL_HALL, 0, 5, (x, place) -> x.scrape(place, 40), UNKNOWN);
        refusedBeyond("night, full", FULL_HALL, 0, 39, (x, night) -> x.scrape(5, night), OUTSIDE);
        GumHall x = hallOf(FIVE);
        due("least", x.scrape(0, 0), 0);
        due("most", x.scrape(5, 39), 1);
        due("the same again", x.scrape(5, 39), 2);
    }

    private static void unscrapeEdges() {
        says("The last k SCRAPES are taken back: how many are left. OUTSIDE.");
        takesBack((x, k) -> x.unscrape(k), 1, 6);
        takesBackTheLast((x, k) -> x.unscrape(k), 6, NightEdges::scrapeBackwards);
    }

    private static void scrapeBackwards(GumHall x, int n) {
        text(x, "h4;s0;f1;b2");
        for (int k = 0; k < 12; k++) x.sit(k % 3, k % 4, k);
        x.move(0, 1, 5);
        x.reading(0, 39, 0, 0);
        for (int k = 0; k < n; k++) x.scrape(k % 4, 12 - 2 * k);
    }

    // ---- what a night does

    private static void chairsChangePlaces() {
        says("on a NIGHT the CHAIRS of two PLACES change places");
        for (int night : new int[] {0, 1, 38, 39}) {
            GumHall x = hallOf(FIVE);
            x.move(0, 5, night);
            if (night > 0) due("left, the night before", x.chair(0, night - 1), 0);
            if (night > 0) due("right, the night before", x.chair(5, night - 1), 5);
            due("left", x.chair(0, night), 5);
            due("right", x.chair(5, night), 0);
            due("left, at last", x.chair(0, 39), 5);
            for (int place = 1; place < 5; place++) due("others stay", x.chair(place, 39), place);
        }
        GumHall x = hallOf(FIVE);
        x.move(0, 5, 3);
        x.move(5, 0, 3);
        due("twice on one night", x.chair(0, 3), 0);
        x.move(0, 5, 39);
        due("back again on the last", x.chair(5, 39), 0);
    }

    private static void scrapedChairs() {
        says("on a NIGHT the CHAIR at a PLACE has no GUM any more");
        for (int night : new int[] {1, 20, 39}) {
            GumHall x = hallOf("h3;s0;s1;s2");
            for (int p = 0; p < 3; p++) x.sit(p, p, 0);
            x.scrape(1, night);
            due("the night before", x.layers(1, night - 1), 1);
            due("that night", x.layers(1, night), 0);
            due("no layer", x.under(1, night, 0, 0), NONE);
            due("at last", x.layers(1, 39), 0);
            due("its left neighbour", x.layers(0, 39), 1);
            due("its right neighbour", x.layers(2, 39), 1);
        }
        GumHall x = hallOf("h2;s0;s1");
        x.scrape(0, 0);
        due("nothing there", x.layers(0, 0), 0);
        x.sit(0, 0, 0);
        due("sat behind the scrape of night 0", x.layers(0, 0), 1);
    }

    private static void orderWithinANight() {
        says("first SCRAPES, then MOVES (both in the order of their numbers), then who sits leaves a GUM under the CHAIR at that PLACE, as its last LAYER.");
        // Told in the other order than they happen: sitting, moves, scrape.
        GumHall x = hallOf("h3;s0;s1;s2");
        x.sit(0, 0, 0);
        x.sit(1, 1, 5);
        x.move(0, 1, 5);
        x.scrape(0, 5);
        due("scraped, then moved", x.chair(1, 5), 0);
        due("its gum is gone, then one sat", x.layers(1, 5), 1);
        due("by the sitting of that night", x.under(1, 5, 0, 1), 1);
        due("the other chair", x.layers(0, 5), 0);
        x.move(1, 2, 5);
        due("moves by their numbers", x.chair(2, 5), 0);
        due("moves by their numbers", x.chair(1, 5), 2);
        due("sat on chair 2", x.under(1, 5, 0, 1), 1);
        GumHall y = hallOf("h3;s0;s1;s2");
        y.move(1, 2, 5);
        y.move(0, 1, 5);
        due("the other order", y.chair(1, 5), 0);
        due("the other order", y.chair(0, 5), 2);
        due("the other order", y.chair(2, 5), 1);
    }

    private static void nightByNight() {
        says("NIGHT by NIGHT");
        GumHall x = hallOf("h2;s0;s1;s2");
        x.sit(0, 0, 39);
        x.sit(1, 0, 0);
        x.sit(2, 0, 20);
        int[] byAge = {1, 2, 0};
        for (int k = 0; k < 3; k++) due("layer " + k, x.under(0, 39, k, 1), byAge[k]);
        due("at the end of night 0", x.layers(0, 0), 1);
        due("at the end of night 19", x.layers(0, 19), 1);
        due("at the end of night 20", x.layers(0, 20), 2);
        due("at the end of night 38", x.layers(0, 38), 2);
        due("at the end of night 39", x.layers(0, 39), 3);
    }

    // ---- promises 11 to 13

    private static void layersEdges() {
        says("How many LAYERS are at a PLACE at the end of a NIGHT. UNKNOWN; OUTSIDE.");
        refusedBeyond("place", BUSY, 0, 2, (x, place) -> x.layers(place, 0), UNKNOWN);
        refusedBeyond("night", BUSY, 0, 39, (x, night) -> x.layers(0, night), OUTSIDE);
        refusedBeyond("place and night", FULL_HALL, 0, 5, (x, place) -> x.layers(place, 40), UNKNOWN);
        keeps("asking", BUSY, x -> x.layers(1, 39), 2);
        GumHall x = hallOf("h6;s0");
        for (int night = 0; night < 24; night++) {
            due("none yet", x.layers(5, night), night);
            x.sit(0, 5, night);
            due("one more", x.layers(5, night), night + 1);
        }
        due("all 24", x.layers(5, 39), 24);
        for (int place = 0; place < 5; place++) due("none", x.layers(place, 39), 0);
    }

    private static void underEdges() {
        says("LAYER k there: its GUM (what 0), the SITTING by which it is (1); NONE: there is none. UNKNOWN: PLACE, k below 0; OUTSIDE.");
        refusedBeyond("place", BUSY, 0, 2, (x, place) -> x.under(place, 39, 0, 0), UNKNOWN);
        refusedBeyond("night", BUSY, 0, 39, (x, night) -> x.under(0, night, 0, 0), OUTSIDE);
        refusedBeyond("what", BUSY, 0, 1, (x, what) -> x.under(1, 39, 0, what), OUTSIDE);
        refusedBeyond("what, no layer", BUSY, 0, 1, (x, what) -> x.under(1, 39, 9, what), OUTSIDE);
        keeps("k -1", BUSY, x -> x.under(1, 39, -1, 0), UNKNOWN);
        keeps("k far below 0", BUSY, x -> x.under(1, 39, MIN, 1), UNKNOWN);
        keeps("k and night", BUSY, x -> x.under(1, 40, -1, 0), UNKNOWN);
        keeps("k and what", BUSY, x -> x.under(1, 39, -1, 2), UNKNOWN);
        keeps("place and night and what", BUSY, x -> x.under(3, -1, 0, -1), UNKNOWN);
        keeps("gum", BUSY, x -> x.under(1, 39, 1, 0), 5);
        keeps("sitting", BUSY, x -> x.under(1, 39, 1, 1), 5);
        for (int what = 0; what < 2; what++) {
            for (int k : new int[] {2, 3, 24, 25, MAX}) due("no layer " + k, made(BUSY).under(1, 39, k, what), NONE);
            due("none at all", made(NO_HALL).under(0, 0, 0, what), UNKNOWN);
        }
    }

    private static void layersFromTheOldest() {
        says("LAYERS of a CHAIR are numbered from the oldest that is there, from 0 on.");
        GumHall x = hallOf("h2;s0;f1;b2");
        for (int k = 0; k < 24; k++) x.sit(k % 3, 0, k);
        for (int k = 0; k < 24; k++) due("layer " + k, x.under(0, 39, k, 1), k);
        due("behind the last", x.under(0, 39, 24, 1), NONE);
        due("the last one's gum", x.under(0, 39, 23, 0), 4);
        x.scrape(0, 20);
        for (int k = 0; k < 4; k++) due("layer " + k + " behind a scrape", x.under(0, 39, k, 1), 20 + k);
        due("behind the last", x.under(0, 39, 4, 1), NONE);
        due("ahead of the scrape", x.under(0, 19, 19, 1), 19);
        x.move(0, 1, 39);
        due("at its new place", x.under(1, 39, 0, 1), 20);
        due("at its old place", x.under(0, 39, 0, 1), NONE);
    }

    private static void chairEdges() {
        says("Which CHAIR is at a PLACE at the end of a NIGHT. UNKNOWN; OUTSIDE.");
        refusedBeyond("place", BUSY, 0, 2, (x, place) -> x.chair(place, 0), UNKNOWN);
        refusedBeyond("place of six", FULL_HALL, 0, 5, (x, place) -> x.chair(place, 39), UNKNOWN);
        refusedBeyond("night", BUSY, 0, 39, (x, night) -> x.chair(0, night), OUTSIDE);
        refusedBeyond("place and night", BUSY, 0, 2, (x, place) -> x.chair(place, 40), UNKNOWN);
        keeps("asking", BUSY, x -> x.chair(0, 10), 2);
        keeps("asking", BUSY, x -> x.chair(0, 9), 0);
    }
}
