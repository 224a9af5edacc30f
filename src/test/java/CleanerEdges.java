/** The edges of part 4, what a cleaner found (promises 18 to 24): a test for each sentence that names one. */
public final class CleanerEdges extends Checks {
    public static void main(String[] args) {
        eightReadings();
        readingRefusals();
        whatAReadingSays();
        atTheEndOfANight();
        backEdges();
        satRefusals();
        satOneThatMayBe();
        satNights();
        movedRefusals();
        movedPairs();
        movedIsTheLastOfItsNight();
        scrapedRefusals();
        scrapedPlaces();
        scrapedIsTheFirstOfItsNight();
        neverEdges();
        oneThingAlone();
        oneMoreWhereFull();
        lookRefusals();
        lookNoSitting();
        lookNights();
        lookLeastPlace();
        lookGroups();
        lookWhereFull();
        end("CleanerEdges");
    }

    // ---- promises 18 and 19

    private static void eightReadings() {
        says("READINGS, 8 at most, numbered by how many there are");
        GumHall x = hallOf("h2;s0");
        for (int k = 0; k < 8; k++) {
            due("ahead of " + k, x.many(5), k);
            due("reading " + k, x.reading(k % 2, 39 - k, k, k), k);
        }
        keeps("the ninth", FULL_HALL, y -> y.reading(0, 0, 0, 9), FULL);
        keeps("the ninth, at the ends", FULL_HALL, y -> y.reading(5, 39, 9, 7), FULL);
        due("one less", x.back(1), 7);
        due("the eighth again", x.reading(0, 0, 0, 9), 7);
        due("the ninth", x.reading(0, 0, 0, 9), FULL);
    }

    private static void readingRefusals() {
        says("A READING: its number. UNKNOWN: PLACE; OUTSIDE: night, k (0 .. 9), gum (0 .. 7, 9); FULL.");
        refusedBeyond("place", BUSY, 0, 2, (x, place) -> x.reading(place, 0, 0, 0), UNKNOWN);
        refusedBeyond("night", BUSY, 0, 39, (x, night) -> x.reading(0, night, 0, 0), OUTSIDE);
        refusedBeyond("k", BUSY, 0, 9, (x, k) -> x.reading(0, 0, k, 0), OUTSIDE);
        refusedBeyond("gum", BUSY, 0, 7, (x, gum) -> x.reading(0, 0, 0, gum), OUTSIDE);
        refusedBeyond("gum", BUSY, 9, 9, (x, gum) -> x.reading(0, 0, 0, gum), OUTSIDE);
        refusedBeyond("place, full", FULL_HALL, 0, 5, (x, place) -> x.reading(place, 40, 10, 8), UNKNOWN);
        refusedBeyond("night, full", FULL_HALL, 0, 39, (x, night) -> x.reading(0, night, 0, 0), OUTSIDE);
        refusedBeyond("k, full", FULL_HALL, 0, 9, (x, k) -> x.reading(0, 0, k, 0), OUTSIDE);
        refusedBeyond("gum, full", FULL_HALL, 9, 9, (x, gum) -> x.reading(0, 0, 0, gum), OUTSIDE);
        keeps("place and night", BUSY, x -> x.reading(3, 40, 0, 0), UNKNOWN);
        keeps("place and k", BUSY, x -> x.reading(-1, 0, 10, 0), UNKNOWN);
        keeps("place and gum", BUSY, x -> x.reading(3, 0, 0, 8), UNKNOWN);
        GumHall x = hallOf(FIVE);
        due("least", x.reading(0, 0, 0, 0), 0);
        due("most", x.reading(5, 39, 9, 7), 1);
        due("not there", x.reading(5, 39, 9, 9), 2);
        due("the same again", x.reading(5, 39, 9, 9), 3);
    }

    /** Whether all readings are so with an eleventh layer at place 1, which has ten by person 0 and one by person 1. */
    private static long isSo(int k, int gum) {
        GumHall x = hallOf("h2;s2;b3");
        for (int night = 0; night < 9; night++) x.sit(0, 1, night);
        x.sit(1, 1, 9);
        x.reading(1, 39, k, gum);
        // A sitting at the other place changes no layer of this one.
        return x.sat(0, 39) == 3 ? 1 : x.sat(0, 39) == 0 ? 0 : -1;
    }

    private static void whatAReadingSays() {
        says("LAYER k (0 .. 9) was a GUM (0 .. 7), or was not there (9).");
        for (int gum = 0; gum < 10; gum++) {
            if (gum == 8) continue;
            due("layer 0 was " + gum, isSo(0, gum), gum == 2 ? 1 : 0);
            due("layer 8 was " + gum, isSo(8, gum), gum == 2 ? 1 : 0);
            due("layer 9 was " + gum, isSo(9, gum), gum == 7 ? 1 : 0);
            GumHall x = hallOf("h2;s2;b3");
            x.reading(1, 0, 0, gum);
            due("nothing is " + gum, x.sat(0, 39), gum == 9 ? 3 : 0);
        }
        GumHall x = hallOf("h2;s0");
        for (int night = 0; night < 9; night++) x.sit(0, 1, night);
        x.reading(1, 39, 9, 9);
        due("layer 9 of nine is not there", x.sat(0, 39), 1);
        due("with one more it is", x.sat(1, 39), 0);
    }

    private static void atTheEndOfANight() {
        says("at the end of a NIGHT, at a PLACE, LAYER k (0 .. 9) was a GUM");
        for (int night : new int[] {0, 20, 39}) {
            GumHall x = hallOf("h2;s0;s1");
            x.sit(0, 0, night);
            x.reading(0, night, 0, 0);
            due("that night's sitting is there", x.never(), 0);
            due("so it is", x.sat(1, night), 2);
            if (night > 0) x.reading(0, night - 1, 0, 9);
            due("not the night before", x.sat(1, night), 2);
            if (night > 0) due("a sitting the night before", x.sat(0, night - 1), 0);
            if (night < 39) due("a sitting the night behind", x.sat(0, night + 1), 3);
            if (night < 39) due("a scrape the night behind", x.scraped(night + 1), 3);
            due("a scrape that night, ahead of it", x.scraped(night), 3);
            due("a move that night, ahead of it", x.moved(night), 1);
        }
    }

    private static void backEdges() {
        says("The last k READINGS (0 .. as many as there are) are taken back: how many are left. OUTSIDE.");
        takesBack((x, k) -> x.back(k), 2, 8);
        takesBackTheLast((x, k) -> x.back(k), 8, CleanerEdges::readBackwards);
    }

    /** Readings each of which rules something out, later numbers on earlier nights. */
    private static void readBackwards(GumHall x, int n) {
        text(x, "h4;s0;s1;s2");
        for (int k = 0; k < 12; k++) x.sit(k % 3, k % 4, 3 * k);
        for (int k = 0; k < n; k++) x.reading(k % 4, 38 - 4 * k, 0, x.under(k % 4, 38 - 4 * k, 0, 0) + (k == 7 ? 1 : 0));
    }

    // ---- promise 20

    private static void satRefusals() {
        says("SAT, as a set. UNKNOWN; OUTSIDE.");
        refusedBeyond("place", BUSY, 0, 2, (x, place) -> x.sat(place, 0), UNKNOWN);
        refusedBeyond("place of six", FULL_HALL, 0, 5, (x, place) -> x.sat(place, 39), UNKNOWN);
        refusedBeyond("night", BUSY, 0, 39, (x, night) -> x.sat(0, night), OUTSIDE);
        refusedBeyond("place and night", BUSY, 0, 2, (x, place) -> x.sat(place, 40), UNKNOWN);
        keeps("asking", BUSY, x -> x.sat(0, 39), 7);
        keeps("asking where none may be so", BUSY, x -> x.sat(1, 39), 0);
    }

    private static void satOneThatMayBe() {
        says("PERSONS by whose one SITTING more there (one that may be) it is so, as a set.");
        GumHall x = hallOf(FIVE);
        due("all five", x.sat(0, 0), 31);
        due("all five at the other end", x.sat(5, 39), 31);
        x.sit(4, 5, 39);
        due("who sat that night may not", x.sat(0, 39), 15);
        due("nor anybody where one sat", x.sat(5, 39), 0);
        due("the night before all may", x.sat(5, 38), 31);
        for (int p = 0; p < 4; p++) x.sit(p, p, 39);
        due("all sat that night", x.sat(4, 39), 0);
        due("none of a new hall's persons is left out", hallOf("h2;s0").sat(1, 20), 1);
        GumHall y = hallOf(FIVE);
        y.reading(0, 39, 0, 0);
        due("gum 0 is left by 0 and 4", y.sat(0, 9), 1 + 16);
        due("later by 0 alone", y.sat(0, 10), 1);
        due("at another place by nobody", y.sat(1, 9), 0);
        y.reading(1, 39, 0, 0);
        due("one more is not two", y.sat(0, 9), 0);
    }

    private static void satNights() {
        says("SAT at a PLACE on a NIGHT");
        GumHall x = hallOf("h2;s0;s1");
        x.reading(0, 39, 0, 0);
        for (int night : new int[] {0, 38, 39}) due("on " + night, x.sat(0, night), 1);
        x.back(1);
        x.reading(0, 0, 0, 0);
        due("on the night of the reading", x.sat(0, 0), 1);
        due("a night too late", x.sat(0, 1), 0);
    }

    // ---- promise 21

    private static void movedRefusals() {
        says("MOVED: 10 times a, and b; NONE. OUTSIDE; STATE: there is no HALL.");
        refusedBeyond("night", BUSY, 0, 39, (x, night) -> x.moved(night), OUTSIDE);
        refusedBeyond("night, no hall", NO_HALL, 0, 39, (x, night) -> x.moved(night), OUTSIDE);
        keeps("no hall", NO_HALL, x -> x.moved(0), STATE);
        keeps("no hall", NO_HALL, x -> x.moved(39), STATE);
        keeps("asking", BUSY, x -> x.moved(0), 1);
        keeps("asking where none is so", x -> {
            BUSY.on(x);
            x.reading(0, 0, 0, 0);
        }, x -> x.moved(30), NONE);
    }

    private static void movedPairs() {
        says("the first pair a, b (a below b; the least a, then b)");
        due("the first of all", hallOf(FIVE).moved(0), 1);
        due("the only one", hallOf("h2;s0").moved(39), 1);
        for (int a = 0; a < 6; a++) {
            for (int b = a + 1; b < 6; b++) {
                GumHall x = hallOf(FIVE);
                x.sit(0, a, 0);
                x.reading(b, 39, 0, 0);
                due("from " + a + " to " + b, x.moved(39), 10 * a + b);
                x.back(1);
                x.reading(a, 39, 0, 9);
                due("away from " + a, x.moved(39), a == 0 ? 1 : a);
                x.reading(0, 39, 0, 9);
                due("away, not to 0", x.moved(39), a == 0 ? 1 : a == 1 ? 12 : 10 + a);
            }
        }
        GumHall x = hallOf("h3;s0");
        x.sit(0, 0, 0);
        x.reading(0, 39, 0, 9);
        x.reading(1, 39, 0, 9);
        due("the least b that is so", x.moved(1), 2);
        x.reading(2, 39, 0, 9);
        due("none", x.moved(1), NONE);
    }

    private static void movedIsTheLastOfItsNight() {
        says("the one MOVE more (the last one of that NIGHT) of two PLACES");
        GumHall x = hallOf("h3;s0;s1");
        x.sit(0, 0, 0);
        x.move(0, 1, 5);
        x.reading(2, 5, 0, 0);
        due("behind the one of that night", x.moved(5), 12);
        due("a night before: ahead of it", x.moved(4), 2);
        due("a night later", x.moved(6), NONE);
        due("ahead of who sits", x.moved(0), NONE);
        x.back(1);
        x.reading(2, 39, 0, 0);
        due("on the last night", x.moved(39), 12);
        due("between sitting and move", x.moved(1), 2);
    }

    // ---- promise 22

    private static void scrapedRefusals() {
        says("SCRAPED, as a set. OUTSIDE; STATE: there is no HALL.");
        refusedBeyond("night", BUSY, 0, 39, (x, night) -> x.scraped(night), OUTSIDE);
        refusedBeyond("night, no hall", NO_HALL, 0, 39, (x, night) -> x.scraped(night), OUTSIDE);
        keeps("no hall", NO_HALL, x -> x.scraped(0), STATE);
        keeps("no hall", NO_HALL, x -> x.scraped(39), STATE);
        keeps("asking", BUSY, x -> x.scraped(0), 7);
        keeps("asking", BUSY, x -> x.scraped(39), 3);
    }

    private static void scrapedPlaces() {
        says("PLACES by whose one SCRAPE more (the first one of that NIGHT) it is so, as a set.");
        due("all six", hallOf(FIVE).scraped(39), 63);
        due("both", hallOf("h2;s0").scraped(0), 3);
        for (int place = 0; place < 6; place++) {
            GumHall x = hallOf(FIVE);
            x.sit(0, place, 0);
            x.reading(place, 39, 0, 9);
            due("only " + place, x.scraped(39), 1 << place);
            due("only " + place, x.scraped(1), 1 << place);
            due("ahead of who sits", x.scraped(0), 0);
            x.back(1);
            x.reading(place, 39, 0, 0);
            due("all but " + place, x.scraped(39), 63 - (1 << place));
            due("ahead of who sits", x.scraped(0), 63);
        }
        GumHall x = hallOf("h2;s0");
        x.reading(0, 39, 0, 0);
        due("none", x.scraped(20), 0);
    }

    private static void scrapedIsTheFirstOfItsNight() {
        says("SCRAPED on a NIGHT: PLACES by whose one SCRAPE more (the first one of that NIGHT) it is so");
        GumHall x = hallOf("h3;s0;s1");
        x.sit(0, 0, 0);
        x.sit(1, 2, 5);
        x.move(0, 2, 5);
        x.reading(2, 39, 0, 1);
        due("ahead of that night's move and sitting", x.scraped(5), 1);
        due("behind them", x.scraped(6), 0);
        due("a night before", x.scraped(4), 1);
        x.scrape(0, 5);
        due("one more of that place", x.scraped(5), 7);
    }

    // ---- promise 23

    private static void neverEdges() {
        says("NEVER, as a set. STATE: there is no HALL.");
        keeps("no hall", NO_HALL, x -> x.never(), STATE);
        keeps("new", NEW, x -> x.never(), STATE);
        says("NEVER: SITTINGS without each of which (alone) it is so, as a set.");
        keeps("asking", BUSY, x -> x.never(), 2 + 4 + 8 + 16 + 32);
        due("no sittings", hallOf("h2;s0").never(), 0);
        GumHall none = hallOf("h2;s0");
        none.reading(0, 0, 0, 0);
        due("no sittings, a reading that is not so", none.never(), 0);
        for (int k = 0; k < 24; k++) {
            GumHall x = hallOf("h2;s0;s1");
            for (int night = 0; night < 24; night++) x.sit(night == k ? 1 : 0, night == k ? 1 : 0, night);
            due("no readings: each", x.never(), 0xFFFFFF);
            x.reading(1, 39, 0, 9);
            due("only number " + k, x.never(), 1 << k);
            x.back(1);
            x.reading(1, 39, 0, 1);
            due("all but number " + k, x.never(), 0xFFFFFF - (1 << k));
        }
        GumHall x = hallOf("h2;s0;s1");
        x.sit(0, 0, 0);
        x.sit(1, 0, 1);
        x.reading(0, 39, 0, 9);
        due("not two at once", x.never(), 0);
    }

    // ---- one more where there are as many as there may be

    private static void oneThingAlone() {
        says("if one thing alone were otherwise, all READINGS are so");
        GumHall x = hallOf("h3;s0;s1");
        x.sit(0, 0, 0);
        due("no readings: all are so", x.sat(1, 0), 2);
        due("no readings: all are so", x.moved(0), 1);
        due("no readings: all are so", x.scraped(0), 7);
        due("no readings: all are so", x.never(), 1);
        x.reading(1, 39, 0, 1);
        due("one reading", x.sat(1, 5), 2);
        x.reading(0, 39, 0, 9);
        due("two that one thing does not mend", x.sat(1, 5), 0);
        due("two that one thing does not mend", x.never(), 0);
        due("two that one thing does not mend", x.scraped(5), 0);
        due("two that one thing does not mend", x.moved(5), NONE);
        x.back(2);
        x.reading(0, 39, 0, 0);
        due("so as it is: what changes nothing", x.sat(1, 5), 3);
        due("so as it is: what changes nothing", x.moved(5), 12);
        due("so as it is: what changes nothing", x.scraped(5), 6);
        due("so as it is: but not without it", x.never(), 0);
    }

    private static void oneMoreWhereFull() {
        says("(one more may be also where there are as many as there may be)");
        Build full = x -> {
            text(x, "h3;s0;s1");
            for (int night = 0; night < 24; night++) x.sit(0, 0, night);
            for (int k = 0; k < 6; k++) x.move(0, 1, 30);
            for (int k = 0; k < 6; k++) x.scrape(1, 31);
            for (int k = 0; k < 7; k++) x.reading(0, 39, k, 0);
        };
        GumHall x = made(full);
        x.reading(2, 39, 0, 1);
        due("a 25th sitting", x.sat(2, 39), 2);
        due("not so without it", x.sat(1, 39), 0);
        GumHall y = made(full);
        y.back(7);
        y.reading(2, 39, 0, 0);
        due("a seventh move", y.moved(30), 2);
        due("a seventh move on the last night", y.moved(39), 2);
        GumHall z = made(full);
        z.back(7);
        z.reading(0, 39, 0, 9);
        due("a seventh scrape", z.scraped(31), 1);
        due("a seventh scrape on the last night", z.scraped(39), 1);
        keeps("sat leaves 24", full, w -> w.sat(2, 39), 3);
        keeps("moved leaves six", full, w -> w.moved(39), 12);
        keeps("scraped leaves six", full, w -> w.scraped(39), 6);
        keeps("never leaves 24", full, w -> w.never(), 0xFFFFFF);
        layerTwentyFive();
    }

    private static void layerTwentyFive() {
        GumHall x = hallOf("h2;s0;s1");
        for (int night = 0; night < 24; night++) x.sit(0, 0, night);
        x.reading(0, 39, 9, 0);
        due("25 layers at one place", x.sat(0, 39), 3);
        due("one among ten", x.sat(1, 5), 2);
        x.back(1);
        x.reading(0, 39, 9, 1);
        due("behind the first ten", x.sat(0, 39), 0);
    }

    // ---- promise 24

    private static void lookRefusals() {
        says("the PLACE (what 0), its GROUP (1). OUTSIDE: nights, what; STATE: there is no HALL.");
        for (Build state : new Build[] {BUSY, NO_HALL}) {
            refusedBeyond("night", state, 0, 39, (x, night) -> x.look(night, 0, 0), OUTSIDE);
            refusedBeyond("end", state, 0, 39, (x, end) -> x.look(0, end, 1), OUTSIDE);
            refusedBeyond("what", state, 0, 1, (x, what) -> x.look(0, 39, what), OUTSIDE);
        }
        for (int what = 0; what < 2; what++) {
            int which = what;
            keeps("no hall", NO_HALL, x -> x.look(0, 39, which), STATE);
            keeps("no hall, one night", NO_HALL, x -> x.look(39, 39, which), STATE);
        }
        keeps("asking", BUSY, x -> x.look(5, 39, 0), 0);
        keeps("asking", BUSY, x -> x.look(5, 39, 1), 6);
    }

    private static void group(String told, GumHall x, int night, int end, int place, int group) {
        due(told + ": place", x.look(night, end, 0), place);
        due(told + ": group", x.look(night, end, 1), group);
    }

    private static void lookNoSitting() {
        says("GROUP: how many that greatest one has (0, if no SITTING may be: then PLACE 0).");
        GumHall x = hallOf("h6;s0");
        x.sit(0, 0, 39);
        group("all persons sat, places are free", x, 39, 39, 0, 0);
        group("one more may be the night before", x, 38, 39, 0, 5);
        GumHall last = hallOf("h6;s0");
        last.sit(0, 5, 39);
        group("the one sat at the last place", last, 39, 39, 0, 0);
        GumHall y = hallOf("h2;s0;s1;s2");
        y.sit(0, 0, 0);
        y.sit(1, 1, 0);
        group("all places are taken, one did not sit", y, 0, 39, 0, 0);
        GumHall z = hallOf("h2;s0;s1");
        z.sit(0, 1, 5);
        z.sit(1, 0, 5);
        group("nobody and nowhere", z, 5, 5, 0, 0);
        group("nobody and nowhere, ahead", z, 5, 4, 0, 0);
    }

    private static void lookNights() {
        says("the PLACE at which the LAYERS at the end of another NIGHT tell the most");
        GumHall x = hallOf("h2;s0");
        int[][] told = {{0, 0}, {0, 39}, {39, 39}, {20, 20}, {20, 21}};
        for (int[] nights : told) group("on " + nights[0] + " by " + nights[1], x, nights[0], nights[1], 0, 1);
        int[][] untold = {{1, 0}, {39, 0}, {39, 38}, {20, 19}};
        for (int[] nights : untold) group("on " + nights[0] + " by " + nights[1], x, nights[0], nights[1], 0, 2);
        x.scrape(0, 21);
        group("scraped a night later", x, 20, 21, 1, 1);
        group("not yet scraped", x, 20, 20, 0, 1);
        group("scraped ahead of it", x, 21, 21, 0, 1);
        x.scrape(1, 21);
        group("all scraped", x, 20, 21, 0, 2);
        x.unscrape(1);
        group("the last scrape is taken back", x, 20, 21, 1, 1);
    }

    private static void lookLeastPlace() {
        says("its greatest group is the least: of several the least PLACE");
        for (int last = 0; last < 6; last++) {
            GumHall x = hallOf("h6;s0");
            for (int place = 0; place < last; place++) x.scrape(place, 10);
            group("the first " + last + " scraped", x, 5, 39, last, 5);
        }
        GumHall all = hallOf("h6;s0");
        for (int place = 0; place < 6; place++) all.scrape(place, 10);
        group("all scraped", all, 5, 39, 0, 6);
        GumHall x = hallOf("h6;s0");
        for (int place = 0; place < 5; place++) x.scrape(place, 10);
        x.move(5, 2, 11);
        group("the one that tells was moved", x, 5, 39, 2, 5);
        group("ahead of the move", x, 5, 10, 5, 5);
        group("a move of that night comes ahead", x, 11, 39, 0, 5);
        x.unmove(1);
        group("the move is taken back", x, 5, 39, 5, 5);
    }

    private static void lookGroups() {
        says("all such SITTINGS that make them alike there (all GUMS, in order) are a group");
        group("two of one gum", hallOf("h2;s0;s0"), 0, 39, 0, 2);
        group("two of two gums", hallOf("h2;s0;s1"), 0, 39, 0, 2);
        group("three of one gum", hallOf("h2;s0;s0;f0"), 0, 39, 0, 3);
        group("five at six", hallOf(FIVE), 0, 39, 0, 25);
        GumHall x = hallOf("h2;s0;s0;f0;s3");
        x.sit(3, 1, 9);
        x.sit(3, 1, 10);
        group("one place, three of one gum", x, 9, 39, 0, 3);
        group("one place, two of one gum", x, 10, 39, 0, 2);
        GumHall y = hallOf("h2;s0;s1;s2");
        y.sit(0, 0, 9);
        group("the place where one sat tells nothing", y, 9, 39, 1, 1);
        y.move(0, 1, 10);
        group("but its chair was moved", y, 9, 39, 0, 1);
        GumHall w = hallOf("h3;s0;s0;s0;s0");
        w.sit(0, 0, 9);
        group("who sat already counts in no group", w, 9, 39, 1, 3);
        // A gum more between others like it: two lengths, not two orders.
        GumHall z = hallOf("h2;s0;s0;s1");
        z.sit(0, 0, 3);
        z.sit(0, 0, 5);
        group("alike among its like", z, 4, 39, 0, 3);
    }

    private static void lookWhereFull() {
        says("if there was one SITTING more on a NIGHT (also where there are 24; any that may be, of any PERSON at any PLACE)");
        GumHall x = hallOf("h3;s0;s1");
        for (int night = 0; night < 24; night++) x.sit(0, 0, night);
        group("a 25th", x, 24, 39, 0, 4);
        group("a 25th of the one who did not sit", x, 23, 39, 1, 1);
        keeps("24 are left", FULL_HALL, y -> y.look(38, 39, 0), 0);
        keeps("24 are left", FULL_HALL, y -> y.look(38, 39, 1), 25);
    }
}
