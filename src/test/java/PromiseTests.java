/** Each promise of the document, by answers worked out by hand: ordinary inputs, edges, wrong inputs. */
public final class PromiseTests extends Checks {
    public static void main(String[] args) {
        constants();
        newObject();
        hall();
        hallFaults();
        hallMakesAllAnew();
        ofPerson();
        gum();
        sit();
        rise();
        move();
        unmove();
        scrape();
        unscrape();
        layersUnderChair();
        orderWithinANight();
        beside();
        habit();
        makers();
        judge();
        judgeRefusals();
        readingAndBack();
        readingIsOfTheNightsEnd();
        sat();
        moved();
        scraped();
        never();
        oneMoreWhereFull();
        look();
        odds();
        sheet();
        lose();
        putAndCell();
        copy();
        tellGreetTrace();
        as();
        fault();
        many();
        end("PromiseTests");
    }

    private static GumHall busyHall() {
        return made(Checks::sitBusily);
    }

    // ---- promises

    private static void constants() {
        about("constants");
        due("UNKNOWN", GumHall.UNKNOWN, UNKNOWN);
        due("OUTSIDE", GumHall.OUTSIDE, OUTSIDE);
        due("STATE", GumHall.STATE, STATE);
        due("FULL", GumHall.FULL, FULL);
        due("NONE", GumHall.NONE, NONE);
        due("LOST", GumHall.LOST, LOST);
    }

    private static void newObject() {
        about("promise 1");
        GumHall x = new GumHall();
        for (int what = 0; what < 6; what++) due("many " + what, x.many(what), 0);
        due("fault", x.fault(), 0);
        due("trace", x.trace(), 0);
        due("ofPerson", x.ofPerson(0, 0), UNKNOWN);
        due("gum", x.gum(0, 0), UNKNOWN);
        due("sit", x.sit(0, 0, 0), UNKNOWN);
        due("move", x.move(0, 1, 0), UNKNOWN);
        due("scrape", x.scrape(0, 0), UNKNOWN);
        due("layers", x.layers(0, 0), UNKNOWN);
        due("under", x.under(0, 0, 0, 0), UNKNOWN);
        due("chair", x.chair(0, 0), UNKNOWN);
        due("beside", x.beside(0, 1), UNKNOWN);
        due("habit", x.habit(0, 0), UNKNOWN);
        due("reading", x.reading(0, 0, 0, 0), UNKNOWN);
        due("sat", x.sat(0, 0), UNKNOWN);
        due("odds", x.odds(0, 0, 0, 0), LOST);
        due("tell", x.tell(0), UNKNOWN);
        due("greet", x.greet(0), UNKNOWN);
        due("as", x.as(0, 0), UNKNOWN);
        due("makers", x.makers(0, 0), STATE);
        due("moved", x.moved(0), STATE);
        due("scraped", x.scraped(0), STATE);
        due("never", x.never(), STATE);
        due("look", x.look(0, 0, 0), STATE);
        due("judge", x.judge(0, 0, 0, 0), STATE);
        due("rise", x.rise(0), 0);
        due("unmove", x.unmove(0), 0);
        due("unscrape", x.unscrape(0), 0);
        due("back", x.back(0), 0);
        for (int k = 0; k < 4; k++) due("lose", x.lose(k), 0);
    }

    private static void hall() {
        about("promise 2");
        due("least", text(new GumHall(), "h2;s0"), 1);
        due("most", text(new GumHall(), "h6;s0;f1;b2;s3;f0"), 5);
        due("empty", text(new GumHall(), ""), -100);
        due("not h", text(new GumHall(), "H3;s1"), -100);
        due("h alone", text(new GumHall(), "h"), -101);
        due("h1", text(new GumHall(), "h1;s1"), -101);
        due("h7", text(new GumHall(), "h7;s1"), -101);
        due("no person", text(new GumHall(), "h2"), -102);
        due("no ;", text(new GumHall(), "h2,s1"), -102);
        due("ends behind ;", text(new GumHall(), "h2;"), -103);
        due("no such letter", text(new GumHall(), "h2;a1"), -103);
        due("ends behind letter", text(new GumHall(), "h2;s"), -104);
        due("flavour 4", text(new GumHall(), "h2;s4"), -104);
        due("flavour below 0", text(new GumHall(), "h2;s/"), -104);
        due("more behind it", text(new GumHall(), "h2;s1 "), -105);
        due("ends behind second ;", text(new GumHall(), "h2;s1;"), -106);
        due("sixth person", text(new GumHall(), "h6;s0;f1;b2;s3;f0;s1"), -117);
        due("; of a sixth person", text(new GumHall(), "h6;s0;f1;b2;s3;f0;"), -117);
        GumHall x = new GumHall();
        write(x, 0, 0, 7, 'h', '4', ';', 'b', '3', 7);
        due("part of a sheet", x.hall(0, 0, 1, 5), 1);
        due("one too many", x.hall(0, 0, 1, 6), -105);
        due("none at the end", x.hall(0, 0, 7, 0), -100);
        due("kept hall", x.many(1), 4);
    }

    private static void hallFaults() {
        about("promise 2, faults");
        GumHall x = new GumHall();
        write(x, 1, 1, 'h', '2', ';', 's', '0');
        due("sheet -1", x.hall(-1, 9, 0, -1), UNKNOWN);
        due("sheet 4", x.hall(4, 1, 0, 5), UNKNOWN);
        due("lane -1", x.hall(1, -1, 0, 5), OUTSIDE);
        due("lane 3", x.hall(1, 3, 0, -5), OUTSIDE);
        due("lane ahead of null", x.hall(0, 3, 0, 5), OUTSIDE);
        due("nothing", x.hall(0, 0, 0, -1), NULL);
        due("other lane", x.hall(1, 0, -1, -1), CAST);
        due("size ahead of index", x.hall(1, 1, -1, -1), SIZE);
        due("i below 0", x.hall(1, 1, -1, 0), INDEX);
        due("i behind the end", x.hall(1, 1, 6, 0), INDEX);
        due("n too great", x.hall(1, 1, 1, 5), INDEX);
        due("n wraps", x.hall(1, 1, 5, MAX), INDEX);
        due("i wraps", x.hall(1, 1, MAX, MAX), INDEX);
        due("fault", x.fault(), 3);
        due("wrong text", x.hall(1, 1, 0, 4), -104);
        due("a wrong text is no fault", x.fault(), 0);
        due("no hall", x.many(1), 0);
        due("taken", x.hall(1, 1, 0, 5), 1);
    }

    private static void hallMakesAllAnew() {
        about("promise 2, anew");
        GumHall x = busyHall();
        x.reading(0, 0, 0, 9);
        x.tell(0);
        due("refused", text(x, "h9"), -101);
        for (int what = 0; what < 6; what++) due("kept " + what, x.many(what), new int[] {3, 3, 6, 1, 1, 1}[what]);
        due("taken", text(x, "h2;b0;s3"), 2);
        for (int what = 0; what < 6; what++) due("anew " + what, x.many(what), new int[] {2, 2, 0, 0, 0, 0}[what]);
        due("person 2 is gone", x.ofPerson(2, 0), UNKNOWN);
        due("place 2 is gone", x.layers(2, 0), UNKNOWN);
        due("kind", x.ofPerson(0, 0), 2);
        due("chair", x.chair(0, 39), 0);
        due("layers", x.layers(0, 39), 0);
        due("first number", x.sit(0, 0, 1), 0);
        due("trace goes on", x.trace(), 1);
    }

    private static void ofPerson() {
        about("promise 3");
        GumHall x = hallOf("h2;s1;f3;b2");
        for (int p = 0; p < 3; p++) due("kind", x.ofPerson(p, 0), p);
        due("flavour", x.ofPerson(0, 1), 1);
        due("flavour", x.ofPerson(1, 1), 3);
        due("flavour", x.ofPerson(2, 1), 2);
        due("no person", x.ofPerson(3, 0), UNKNOWN);
        due("person ahead of what", x.ofPerson(-1, 2), UNKNOWN);
        due("what 2", x.ofPerson(0, 2), OUTSIDE);
        due("what -1", x.ofPerson(0, -1), OUTSIDE);
    }

    private static void gum() {
        about("promise 4");
        GumHall x = hallOf("h2;s3;f2;b3");
        due("sitter", x.gum(0, 0), 3);
        due("sitter late", x.gum(0, 39), 3);
        due("fickle 9", x.gum(1, 9), 2);
        due("fickle 10", x.gum(1, 10), 3);
        due("fickle 20", x.gum(1, 20), 0);
        due("fickle 39", x.gum(1, 39), 1);
        due("biter 0", x.gum(2, 0), 7);
        due("biter 10", x.gum(2, 10), 4);
        due("biter 39", x.gum(2, 39), 6);
        due("no person", x.gum(3, 40), UNKNOWN);
        due("person -1", x.gum(MIN, 0), UNKNOWN);
        due("night 40", x.gum(0, 40), OUTSIDE);
        due("night -1", x.gum(0, -1), OUTSIDE);
    }

    private static void sit() {
        about("promise 5");
        GumHall x = hallOf("h3;s0;f1;b2");
        due("first", x.sit(0, 0, 5), 0);
        due("second", x.sit(1, 1, 5), 1);
        due("twice", x.sit(0, 0, 5), STATE);
        due("elsewhere", x.sit(0, 2, 5), STATE);
        due("taken", x.sit(2, 1, 5), STATE);
        due("no person", x.sit(3, 0, 40), UNKNOWN);
        due("no place", x.sit(0, 3, 40), UNKNOWN);
        due("place -1", x.sit(0, -1, 0), UNKNOWN);
        due("person -1", x.sit(-1, 0, 0), UNKNOWN);
        due("night 40", x.sit(0, 0, 40), OUTSIDE);
        due("night -1", x.sit(0, 0, -1), OUTSIDE);
        due("changed nothing", x.many(2), 2);
        due("free place", x.sit(2, 2, 5), 2);
        for (int k = 3; k < 24; k++) due("more", x.sit(0, 0, k + 10), k);
        due("state ahead of full", x.sit(0, 1, 13), STATE);
        due("full", x.sit(0, 0, 0), FULL);
        due("outside ahead of full", x.sit(0, 0, 40), OUTSIDE);
        due("at most", x.many(2), 24);
    }

    private static void rise() {
        about("promise 6");
        GumHall x = busyHall();
        due("below 0", x.rise(-1), OUTSIDE);
        due("too many", x.rise(7), OUTSIDE);
        due("none", x.rise(0), 6);
        due("two", x.rise(2), 4);
        due("layers less", x.layers(1, 39), 0);
        due("others stay", x.layers(0, 39), 1);
        due("the last ones went", x.under(2, 39, 0, 1), 0);
        due("number again", x.sit(2, 1, 30), 4);
        due("all", x.rise(5), 0);
        due("one of none", x.rise(1), OUTSIDE);
        due("moves stay", x.chair(0, 39), 2);
    }

    private static void move() {
        about("promise 7");
        GumHall x = hallOf("h3;s0");
        due("first", x.move(0, 1, 3), 0);
        due("second", x.move(2, 1, 2), 1);
        due("one place", x.move(1, 1, 3), UNKNOWN);
        due("no place a", x.move(3, 1, 40), UNKNOWN);
        due("no place b", x.move(0, -1, 40), UNKNOWN);
        due("night 40", x.move(0, 1, 40), OUTSIDE);
        due("night -1", x.move(0, 1, -1), OUTSIDE);
        due("before", x.chair(1, 1), 1);
        due("night 2", x.chair(1, 2), 2);
        due("night 2", x.chair(2, 2), 1);
        due("night 3", x.chair(0, 3), 2);
        due("night 3", x.chair(1, 3), 0);
        for (int k = 2; k < 6; k++) due("more", x.move(0, 1, 5), k);
        due("full", x.move(0, 1, 5), FULL);
        due("unknown ahead of full", x.move(0, 0, 5), UNKNOWN);
    }

    private static void unmove() {
        about("promise 8");
        GumHall x = hallOf("h3;s0");
        x.move(0, 1, 9);
        x.move(1, 2, 3);
        due("too many", x.unmove(3), OUTSIDE);
        due("below 0", x.unmove(-1), OUTSIDE);
        due("the last by number", x.unmove(1), 1);
        due("the earlier stays", x.chair(0, 9), 1);
        due("the later went", x.chair(2, 9), 2);
        due("none", x.unmove(0), 1);
        due("all", x.unmove(1), 0);
        due("as at first", x.chair(0, 39), 0);
        due("one of none", x.unmove(1), OUTSIDE);
    }

    private static void scrape() {
        about("promise 9");
        GumHall x = hallOf("h3;s0;s1");
        x.sit(0, 0, 1);
        x.sit(0, 1, 2);
        due("first", x.scrape(0, 2), 0);
        due("no place", x.scrape(3, 40), UNKNOWN);
        due("place -1", x.scrape(-1, 0), UNKNOWN);
        due("night 40", x.scrape(0, 40), OUTSIDE);
        due("night -1", x.scrape(0, -1), OUTSIDE);
        due("before", x.layers(0, 1), 1);
        due("gone", x.layers(0, 2), 0);
        due("another chair", x.layers(1, 2), 1);
        for (int k = 1; k < 6; k++) due("more", x.scrape(2, 39), k);
        due("full", x.scrape(2, 39), FULL);
        due("outside ahead of full", x.scrape(2, 40), OUTSIDE);
    }

    private static void unscrape() {
        about("promise 10");
        GumHall x = busyHall();
        due("too many", x.unscrape(2), OUTSIDE);
        due("below 0", x.unscrape(-1), OUTSIDE);
        due("none", x.unscrape(0), 1);
        due("scraped", x.layers(1, 39), 2);
        due("all", x.unscrape(1), 0);
        due("gum again", x.layers(1, 39), 3);
        due("one of none", x.unscrape(1), OUTSIDE);
    }

    private static void layersUnderChair() {
        GumHall x = busyHall();
        about("promise 11");
        due("place 0 early", x.layers(0, 0), 0);
        due("place 0 before the move", x.layers(0, 9), 1);
        due("place 0", x.layers(0, 39), 1);
        due("place 2", x.layers(2, 39), 2);
        due("place 1 before the scrape", x.layers(1, 19), 1);
        due("place 1 on its night", x.layers(1, 20), 1);
        due("place 1", x.layers(1, 39), 2);
        due("no place", x.layers(3, 40), UNKNOWN);
        due("night 40", x.layers(0, 40), OUTSIDE);
        due("night -1", x.layers(0, -1), OUTSIDE);
        about("promise 12");
        due("oldest", x.under(2, 39, 0, 0), 1);
        due("oldest's sitting", x.under(2, 39, 0, 1), 0);
        due("last", x.under(2, 39, 1, 0), 7);
        due("last's sitting", x.under(2, 39, 1, 1), 2);
        due("none", x.under(2, 39, 2, 0), NONE);
        due("none", x.under(2, 39, MAX, 1), NONE);
        due("fickle of its night", x.under(1, 39, 0, 0), 1);
        due("numbered from what is there", x.under(1, 39, 0, 1), 4);
        due("k below 0", x.under(0, 40, -1, 2), UNKNOWN);
        due("no place", x.under(3, 0, 0, 0), UNKNOWN);
        due("night 40", x.under(0, 40, 0, 0), OUTSIDE);
        due("what 2", x.under(0, 0, 0, 2), OUTSIDE);
        due("what -1, none there", x.under(0, 0, 0, -1), OUTSIDE);
        about("promise 13");
        due("before", x.chair(0, 9), 0);
        due("on its night", x.chair(0, 10), 2);
        due("the other", x.chair(2, 39), 0);
        due("the rest", x.chair(1, 39), 1);
        due("no place", x.chair(-1, 0), UNKNOWN);
        due("night 40", x.chair(0, 40), OUTSIDE);
    }

    private static void orderWithinANight() {
        about("promise 11 to 13, one night");
        GumHall x = hallOf("h3;s1;s2");
        x.sit(0, 0, 4);
        x.move(0, 1, 5);
        x.scrape(0, 5);
        x.sit(1, 0, 5);
        due("scraped ahead of the move", x.layers(1, 5), 0);
        due("sat behind the move", x.under(0, 5, 0, 0), 2);
        due("on chair 1", x.chair(0, 5), 1);
        x.move(1, 2, 5);
        due("moves by their numbers", x.chair(2, 5), 0);
        x.unmove(2);
        x.move(1, 2, 5);
        x.move(0, 1, 5);
        due("moves by their numbers", x.chair(2, 5), 1);
        due("moves by their numbers", x.chair(0, 5), 2);
        x.sit(0, 2, 3);
        due("layers by nights, not by numbers", x.under(1, 4, 0, 0), NONE);
        x.sit(1, 0, 3);
        due("later sitting, earlier night", x.under(0, 4, 0, 1), 3);
        due("earlier sitting, later night", x.under(0, 4, 1, 1), 0);
    }

    private static void beside() {
        about("promise 14");
        GumHall x = hallOf("h4;s0;s1;s2");
        x.sit(0, 0, 1);
        x.sit(1, 1, 1);
        x.sit(2, 2, 1);
        x.sit(0, 3, 2);
        x.sit(1, 2, 2);
        x.sit(0, 0, 3);
        x.sit(1, 1, 4);
        due("two nights", x.beside(0, 1), 2);
        due("the other way", x.beside(1, 0), 2);
        due("one night", x.beside(1, 2), 1);
        due("one between", x.beside(0, 2), 0);
        due("one person", x.beside(1, 1), UNKNOWN);
        due("no person", x.beside(0, 3), UNKNOWN);
        due("person -1", x.beside(-1, 0), UNKNOWN);
    }

    private static void habit() {
        about("promise 15");
        GumHall x = hallOf("h4;s0;s1;s2");
        x.sit(0, 3, 1);
        x.sit(0, 3, 2);
        x.sit(0, 1, 3);
        x.sit(1, 2, 5);
        x.sit(1, 1, 4);
        due("most", x.habit(0, 0), 3);
        due("how often", x.habit(0, 1), 2);
        due("least of several", x.habit(1, 0), 1);
        due("once", x.habit(1, 1), 1);
        due("none", x.habit(2, 0), NONE);
        due("never", x.habit(2, 1), 0);
        due("no person", x.habit(3, 2), UNKNOWN);
        due("what 2", x.habit(0, 2), OUTSIDE);
        due("what -1", x.habit(0, -1), OUTSIDE);
    }

    private static void makers() {
        about("promise 16");
        GumHall x = hallOf("h2;s1;f0;b1;f1;s1");
        due("early", x.makers(1, 9), 1 + 8 + 16);
        due("later", x.makers(1, 10), 1 + 2 + 16);
        due("biter", x.makers(5, 0), 4);
        due("biter later", x.makers(6, 19), 4);
        due("nobody", x.makers(7, 0), 0);
        due("gum 8", x.makers(8, 0), OUTSIDE);
        due("gum -1", x.makers(-1, 0), OUTSIDE);
        due("night 40", x.makers(0, 40), OUTSIDE);
        due("outside ahead of state", new GumHall().makers(8, 0), OUTSIDE);
    }

    private static void judge() {
        about("promise 17");
        GumHall x = hallOf("h3;s0;s1;s2");
        x.sit(0, 0, 1);
        write(x, 0, 0, 0, 0, 1, 1, 1, 1, 1, 1, 1, 2, 1, 2, 1, 2, 1, 2, 2, 1, 0, 2, 1);
        due("none", x.judge(0, 0, 0, 0), NONE);
        due("said by a sitting", x.judge(0, 0, 0, 1), NONE);
        due("said twice", x.judge(0, 0, 0, 4), NONE);
        due("elsewhere by a claim ahead", x.judge(0, 0, 0, 5), 4);
        due("the first alone", x.judge(0, 0, 0, 7), 4);
        due("alone it may be", x.judge(0, 0, 12, 1), NONE);
        due("place free but for claims", x.judge(0, 0, 12, 2), 1);
        due("elsewhere by a sitting", x.judge(0, 0, 18, 1), 0);
        write(x, 1, 1, 1, 0, 1, 2, 2, 1);
        due("another one there", x.judge(1, 1, 0, 2), 0);
        due("free", x.judge(1, 1, 3, 1), NONE);
        due("claims are not kept", x.many(2), 1);
        for (int night = 2; night < 25; night++) x.sit(0, 0, night);
        write(x, 1, 1, 1, 1, 30);
        due("also with 24 sittings", x.judge(1, 1, 0, 1), NONE);
    }

    private static void judgeRefusals() {
        about("promise 17, refusals");
        GumHall x = new GumHall();
        write(x, 0, 0, 0, 0, 1, 0, 1, 1, 9, 0, 0);
        due("sheet 4", x.judge(4, 3, 0, 21), UNKNOWN);
        due("lane 3", x.judge(0, 3, 0, 0), OUTSIDE);
        due("n 21", x.judge(0, 0, 0, 21), OUTSIDE);
        due("n -1 is outside, no size", x.judge(0, 0, 0, -1), OUTSIDE);
        due("state ahead of cast", x.judge(0, 1, 0, 1), STATE);
        text(x, "h3;s0");
        due("cast", x.judge(0, 1, -1, 1), CAST);
        due("null", x.judge(1, 1, -1, 1), NULL);
        due("index", x.judge(0, 0, -1, 0), INDEX);
        due("index", x.judge(0, 0, 10, 0), INDEX);
        due("index", x.judge(0, 0, 7, 1), INDEX);
        due("index ahead of cells", x.judge(0, 0, 0, 4), INDEX);
        due("fault", x.fault(), 3);
        due("none at the end", x.judge(0, 0, 9, 0), NONE);
        due("can't be", x.judge(0, 0, 0, 2), 1);
        due("no person, behind one that can't be", x.judge(0, 0, 0, 3), OUTSIDE);
        due("no fault", x.fault(), 0);
        write(x, 0, 0, 0, 3, 0, 0, 0, 40, -1, 0, 0);
        due("no place", x.judge(0, 0, 0, 1), OUTSIDE);
        due("no night", x.judge(0, 0, 3, 1), OUTSIDE);
        due("person -1", x.judge(0, 0, 6, 1), OUTSIDE);
        write(x, 0, 0, new int[60]);
        due("twenty claims", x.judge(0, 0, 0, 20), NONE);
    }

    private static void readingAndBack() {
        about("promise 18");
        GumHall x = hallOf("h2;s0");
        due("first", x.reading(0, 0, 0, 0), 0);
        due("most", x.reading(1, 39, 9, 7), 1);
        due("not there", x.reading(1, 39, 9, 9), 2);
        due("no place", x.reading(2, 40, 0, 0), UNKNOWN);
        due("night 40", x.reading(0, 40, 0, 0), OUTSIDE);
        due("night -1", x.reading(0, -1, 0, 0), OUTSIDE);
        due("k 10", x.reading(0, 0, 10, 0), OUTSIDE);
        due("k -1", x.reading(0, 0, -1, 0), OUTSIDE);
        due("gum 8", x.reading(0, 0, 0, 8), OUTSIDE);
        due("gum 10", x.reading(0, 0, 0, 10), OUTSIDE);
        due("gum -1", x.reading(0, 0, 0, -1), OUTSIDE);
        for (int k = 3; k < 8; k++) due("more", x.reading(0, 0, 0, 9), k);
        due("full", x.reading(0, 0, 0, 9), FULL);
        due("outside ahead of full", x.reading(0, 0, 0, 8), OUTSIDE);
        about("promise 19");
        due("too many", x.back(9), OUTSIDE);
        due("below 0", x.back(-1), OUTSIDE);
        due("none", x.back(0), 8);
        due("some", x.back(3), 5);
        due("number again", x.reading(0, 0, 0, 9), 5);
        due("all", x.back(6), 0);
        due("one of none", x.back(1), OUTSIDE);
    }

    private static void readingIsOfTheNightsEnd() {
        about("promise 18, the end of a night");
        GumHall x = hallOf("h2;s0;s1");
        x.sit(0, 0, 5);
        x.sit(0, 0, 6);
        x.reading(0, 5, 0, 0);
        due("behind that night's sittings", x.never(), 2);
        x.reading(0, 4, 0, 9);
        x.reading(0, 5, 1, 9);
        due("not of later nights", x.never(), 2);
        x.scrape(0, 5);
        due("behind that night's scrapes", x.never(), 2);
        x.move(0, 1, 5);
        x.back(2);
        due("behind that night's moves", x.never(), 2);
        due("a layer that a scrape takes", x.scraped(6), 3);
    }

    private static void sat() {
        about("promise 20");
        GumHall x = hallOf("h3;s1;f0;b1;s1");
        due("no readings: all", x.sat(0, 0), 15);
        x.sit(0, 1, 12);
        due("who sat already is not", x.sat(0, 12), 14);
        due("taken place", x.sat(1, 12), 0);
        x.reading(0, 39, 0, 1);
        due("gum of the night", x.sat(0, 12), 2 + 8);
        due("gum of another night", x.sat(0, 9), 1 + 8);
        due("another place", x.sat(2, 12), 0);
        x.move(0, 2, 20);
        due("a chair that was moved", x.sat(2, 12), 2 + 8);
        x.reading(0, 39, 1, 9);
        due("one more is not two", x.sat(2, 12), 2 + 8);
        due("changed nothing", x.many(2), 1);
        due("no place", x.sat(3, 40), UNKNOWN);
        due("night 40", x.sat(0, 40), OUTSIDE);
        due("night -1", x.sat(0, -1), OUTSIDE);
    }

    private static void moved() {
        about("promise 21");
        GumHall x = hallOf("h4;s1;s2");
        due("no readings: the first pair", x.moved(0), 1);
        x.sit(0, 1, 3);
        x.reading(3, 10, 0, 1);
        due("a pair", x.moved(5), 13);
        due("sat behind the move of that night", x.moved(3), NONE);
        due("too late", x.moved(11), NONE);
        x.back(1);
        x.reading(1, 10, 0, 1);
        due("the least a, then b", x.moved(5), 2);
        x.move(0, 1, 5);
        due("behind the moves of that night", x.moved(5), 1);
        x.back(1);
        x.reading(2, 10, 0, 1);
        due("behind the moves of that night", x.moved(5), 2);
        due("ahead of them", x.moved(4), 12);
        due("changed nothing", x.many(3), 1);
        due("night 40", x.moved(40), OUTSIDE);
        due("outside ahead of state", new GumHall().moved(-1), OUTSIDE);
    }

    private static void scraped() {
        about("promise 22");
        GumHall x = hallOf("h3;s1;s2");
        due("no readings: all", x.scraped(0), 7);
        x.sit(0, 0, 3);
        x.sit(0, 0, 5);
        x.move(0, 2, 5);
        x.reading(2, 10, 0, 9);
        due("ahead of that night's moves", x.scraped(5), 1);
        due("behind them", x.scraped(6), 4);
        due("before the sitting", x.scraped(3), 0);
        due("behind the reading", x.scraped(11), 0);
        x.back(1);
        x.reading(0, 10, 0, 1);
        due("ahead of that night's sitting", x.scraped(5), 7);
        due("changed nothing", x.many(4), 0);
        due("night -1", x.scraped(-1), OUTSIDE);
        due("outside ahead of state", new GumHall().scraped(40), OUTSIDE);
    }

    private static void never() {
        about("promise 23");
        GumHall x = hallOf("h3;s1;s2");
        due("no sittings", x.never(), 0);
        x.sit(0, 0, 3);
        x.sit(1, 0, 4);
        x.sit(0, 0, 5);
        due("no readings: all", x.never(), 7);
        x.reading(0, 39, 0, 1);
        x.reading(0, 39, 1, 1);
        due("what lay between", x.never(), 2);
        x.reading(0, 39, 2, 1);
        due("none alone", x.never(), 0);
        due("changed nothing", x.many(2), 3);
    }

    private static void oneMoreWhereFull() {
        about("promise 20 to 23, full");
        GumHall x = hallOf("h2;s0;s1");
        for (int k = 0; k < 24; k++) x.sit(0, 0, k);
        for (int k = 0; k < 6; k++) x.move(0, 1, 38);
        for (int k = 0; k < 6; k++) x.scrape(1, 37);
        for (int k = 0; k < 6; k++) x.reading(0, 39, k, 0);
        x.reading(1, 30, 0, 1);
        x.reading(1, 39, 0, 9);
        due("a sitting of 25", x.sat(1, 30), 2);
        due("never of 24", x.never(), 0);
        x.back(2);
        due("never of 24", x.never(), 0xFFFFFF);
        x.back(6);
        x.reading(1, 39, 9, 0);
        due("a move of 7", x.moved(38), 1);
        x.back(1);
        x.reading(0, 39, 0, 9);
        due("a scrape of 7", x.scraped(37), 1);
        due("sittings", x.many(2), 24);
        due("moves", x.many(3), 6);
        due("scrapes", x.many(4), 6);
    }

    private static void look() {
        about("promise 24");
        GumHall x = hallOf("h3;s1;s1;b2");
        due("a place of several", x.look(5, 39, 0), 0);
        due("others at other places", x.look(5, 39, 1), 6);
        due("before it", x.look(5, 4, 1), 9);
        due("on that night", x.look(5, 5, 1), 6);
        x.scrape(0, 8);
        due("a scraped one tells nothing", x.look(5, 39, 0), 1);
        due("its group", x.look(5, 39, 1), 6);
        due("scraped on that night", x.look(8, 39, 0), 0);
        x.move(0, 1, 9);
        due("the scraped one was moved", x.look(5, 39, 0), 0);
        due("before the move", x.look(5, 8, 0), 1);
        x.sit(0, 0, 12);
        x.sit(2, 2, 12);
        due("one place, one gum: it", x.look(12, 39, 0), 0);
        due("one place, one gum", x.look(12, 39, 1), 1);
        x.sit(1, 1, 12);
        due("none may be", x.look(12, 39, 0), 0);
        due("none may be", x.look(12, 39, 1), 0);
        x.rise(3);
        x.unmove(1);
        x.sit(2, 0, 6);
        due("its place", x.look(6, 20, 0), 1);
        due("two alike at it", x.look(6, 20, 1), 2);
        x.reading(2, 39, 0, 7);
        due("readings do not count", x.look(6, 20, 1), 2);
        due("night 40", x.look(40, 0, 0), OUTSIDE);
        due("end 40", x.look(0, 40, 0), OUTSIDE);
        due("night -1", x.look(-1, 0, 0), OUTSIDE);
        due("end -1", x.look(0, -1, 0), OUTSIDE);
        due("what 2", x.look(0, 0, 2), OUTSIDE);
        due("outside ahead of state", new GumHall().look(0, 0, -1), OUTSIDE);
        GumHall y = hallOf("h2;s0;s1");
        for (int k = 0; k < 24; k++) y.sit(0, 0, k);
        due("also with 24", y.look(30, 30, 1), 2);
        due("one is left, at place 1", y.look(3, 30, 0), 0);
        due("one is left", y.look(3, 30, 1), 1);
    }

    private static void odds() {
        about("promise 25");
        GumHall x = hallOf("h2;s0;s1");
        due("no sitting", x.odds(0, 39, 0, 0), 1);
        due("no sitting", x.odds(0, 39, 0, 1), 1);
        due("no sitting", x.odds(0, 39, 1, 0), 0);
        due("no sitting", x.odds(0, 39, 1, 1), 1);
        for (int k = 0; k < 4; k++) x.sit(0, 0, k);
        x.sit(1, 1, 0);
        int[] upper = {1, 1, 3, 1, 1, 0};
        int[] lower = {16, 4, 8, 4, 16, 1};
        for (int v = 0; v < 6; v++) due("upper " + v, x.odds(0, 39, v, 0), upper[v]);
        for (int v = 0; v < 6; v++) due("lower " + v, x.odds(0, 39, v, 1), lower[v]);
        due("later sittings", x.odds(0, 1, 2, 1), 4);
        x.scrape(0, 2);
        due("scraped", x.odds(0, 39, 1, 0), 1);
        due("scraped", x.odds(0, 39, 1, 1), 2);
        due("scraped", x.odds(0, 39, 3, 0), 0);
        due("v 24", x.odds(0, 39, 24, 1), 1);
        due("no place", x.odds(2, 0, 0, 0), LOST);
        due("night 40", x.odds(0, 40, 0, 0), LOST);
        due("v 25", x.odds(0, 0, 25, 0), LOST);
        due("v -1", x.odds(0, 0, -1, 0), LOST);
        due("which 2", x.odds(0, 0, 0, 2), LOST);
        due("which -1", x.odds(0, 0, 0, -1), LOST);
    }

    private static void sheet() {
        about("promise 26");
        GumHall x = new GumHall();
        due("empty", x.sheet(0, 0, 0), 1);
        due("no cell", x.put(0, 0, 1), INDEX);
        due("most", x.sheet(3, 2, 60), 1);
        due("last cell", x.put(3, 59, 5), 1);
        due("anew", x.sheet(3, 2, 60), 1);
        due("0 at first", x.cell(3, 59, 2), 0);
        x.put(3, 59, 5);
        due("sheet 4", x.sheet(4, 3, 61), UNKNOWN);
        due("sheet -1", x.sheet(-1, 0, 0), UNKNOWN);
        due("lane 3", x.sheet(3, 3, -1), OUTSIDE);
        due("lane -1", x.sheet(3, -1, 1), OUTSIDE);
        due("61", x.sheet(3, 0, 61), OUTSIDE);
        due("size", x.sheet(3, 0, -1), SIZE);
        due("size", x.sheet(3, 0, MIN), SIZE);
        due("changed nothing", x.cell(3, 59, 2), 5);
    }

    private static void lose() {
        about("promise 27");
        GumHall x = new GumHall();
        due("nothing", x.lose(0), 0);
        x.sheet(0, 0, 0);
        due("an empty row is no nothing", x.lose(0), 1);
        due("then nothing", x.lose(0), 0);
        due("null", x.put(0, 0, 0), NULL);
        due("sheet 4", x.lose(4), UNKNOWN);
        due("sheet -1", x.lose(-1), UNKNOWN);
        due("leaves the fault alone", x.fault(), 1);
    }

    private static void putAndCell() {
        about("promise 28");
        GumHall x = new GumHall();
        for (int lane = 0; lane < 3; lane++) x.sheet(lane, lane, 2);
        for (int lane = 0; lane < 3; lane++) due("put", x.put(lane, 1, 0x12348765), 1);
        due("sheet 4", x.put(4, 0, 0), UNKNOWN);
        due("null ahead of index", x.put(3, -1, 0), NULL);
        due("index -1", x.put(0, -1, 0), INDEX);
        due("index 2", x.put(0, 2, 0), INDEX);
        due("index far", x.put(0, MAX, 0), INDEX);
        about("promise 29");
        due("byte", x.cell(0, 1, 0), 0x65);
        due("short", x.cell(1, 1, 1), (short) 0x8765);
        due("int", x.cell(2, 1, 2), 0x12348765);
        x.put(0, 0, 200);
        due("byte below 0", x.cell(0, 0, 0), -56);
        x.put(2, 0, MIN);
        due("least int", x.cell(2, 0, 2), MIN);
        due("sheet 4", x.cell(4, 0, 0), LOST);
        due("no fault", x.fault(), 0);
        due("lane 3", x.cell(0, 0, 3), LOST);
        due("no fault", x.fault(), 0);
        due("cast", x.cell(0, -1, 1), LOST);
        due("cast", x.fault(), 2);
        due("null", x.cell(3, -1, 1), LOST);
        due("null", x.fault(), 1);
        due("index", x.cell(0, 2, 0), LOST);
        due("index", x.fault(), 3);
        due("index -1", x.cell(0, -1, 0), LOST);
        due("index -1", x.fault(), 3);
        due("ok", x.cell(0, 0, 0), -56);
        due("none", x.fault(), 0);
    }

    private static void copy() {
        about("promise 30");
        GumHall x = new GumHall();
        write(x, 0, 1, 1, 2, 3, 4, 5);
        write(x, 1, 1, 9, 9, 9);
        x.sheet(2, 0, 5);
        due("to another", x.copy(0, 1, 1, 0, 2), 2);
        due("came", x.cell(1, 0, 1), 2);
        due("came", x.cell(1, 1, 1), 3);
        due("kept", x.cell(1, 2, 1), 9);
        due("forward over itself", x.copy(0, 0, 0, 1, 4), 4);
        for (int i = 0; i < 5; i++) due("as they were " + i, x.cell(0, i, 1), new int[] {1, 1, 2, 3, 4}[i]);
        due("backward over itself", x.copy(0, 2, 0, 0, 3), 3);
        for (int i = 0; i < 5; i++) due("as they were " + i, x.cell(0, i, 1), new int[] {2, 3, 4, 3, 4}[i]);
        due("none at the ends", x.copy(0, 5, 1, 3, 0), 0);
        due("sheet 4", x.copy(4, 0, 3, 0, -1), UNKNOWN);
        due("other -1", x.copy(3, 0, -1, 0, -1), UNKNOWN);
        due("null first", x.copy(3, 0, 2, 0, -1), NULL);
        due("null other", x.copy(0, -1, 3, 0, 0), NULL);
        due("cast ahead of index", x.copy(0, -1, 2, 0, 0), CAST);
        due("i -1", x.copy(0, -1, 1, 0, 0), INDEX);
        due("i 6", x.copy(0, 6, 1, 0, 0), INDEX);
        due("j -1", x.copy(0, 0, 1, -1, 0), INDEX);
        due("j 4", x.copy(0, 0, 1, 4, 0), INDEX);
        due("n -1 is an index", x.copy(0, 0, 1, 0, -1), INDEX);
        due("beyond the first", x.copy(0, 4, 1, 0, 2), INDEX);
        due("beyond the other", x.copy(0, 0, 1, 0, 4), INDEX);
        due("wraps", x.copy(0, 1, 1, 1, MAX), INDEX);
        due("fault", x.fault(), 3);
        due("changed nothing", x.cell(1, 0, 1), 2);
    }

    private static void tellGreetTrace() {
        GumHall x = hallOf("h2;s1;f3;b2");
        about("promise 31");
        due("sitter", x.tell(0), 1);
        due("trace", x.trace(), 1);
        due("fickle", x.tell(1), 103);
        int trace = (1 * 31 + 2) * 31 + 1;
        due("trace", x.trace(), trace);
        due("biter", x.tell(2), 104);
        for (int body : new int[] {3, 2, 1, 1}) trace = trace * 31 + body;
        due("trace", x.trace(), trace);
        due("no person", x.tell(3), UNKNOWN);
        due("person -1", x.tell(-1), UNKNOWN);
        about("promise 32");
        due("sitter", x.greet(0), 0);
        due("fickle", x.greet(1), 1);
        due("biter", x.greet(2), 70);
        for (int body : new int[] {4, 4, 5}) trace = trace * 31 + body;
        due("no person", x.greet(3), UNKNOWN);
        about("promise 34");
        due("trace", x.trace(), trace);
        for (int k = 0; k < 50; k++) {
            x.tell(0);
            trace = trace * 31 + 1;
        }
        due("wraps", x.trace(), trace);
    }

    private static void as() {
        about("promise 33");
        GumHall x = hallOf("h2;s1;f3;b2");
        for (int p = 0; p < 3; p++) {
            for (int kind = 0; kind < 3; kind++) {
                due("as", x.as(p, kind), kind <= p ? 1 : CAST);
                due("fault", x.fault(), kind <= p ? 0 : 2);
            }
        }
        due("no person", x.as(3, 3), UNKNOWN);
        due("kind 3", x.as(2, 3), OUTSIDE);
        due("kind -1", x.as(2, -1), OUTSIDE);
    }

    private static void fault() {
        about("promise 35");
        GumHall x = hallOf("h2;s1");
        Runnable cast = () -> x.as(0, 1);
        cast.run();
        due("cast", x.fault(), 2);
        due("asked again", x.fault(), 2);
        x.lose(9);
        x.sit(0, 0, 0);
        x.sit(9, 0, 0);
        x.odds(9, 0, 0, 0);
        x.many(9);
        x.tell(0);
        due("calls that name none", x.fault(), 2);
        Runnable[] refused = {
            () -> x.hall(9, 0, 0, 0), () -> x.judge(9, 0, 0, 0), () -> x.sheet(9, 0, 0), () -> x.put(9, 0, 0),
            () -> x.cell(9, 0, 0), () -> x.copy(9, 0, 0, 0, 0), () -> x.as(9, 0), () -> x.sheet(0, 0, 61),
        };
        for (Runnable call : refused) {
            cast.run();
            call.run();
            due("refused", x.fault(), 0);
        }
        x.sheet(0, 0, -1);
        due("size", x.fault(), 4);
        x.sheet(0, 0, 1);
        due("taken", x.fault(), 0);
    }

    private static void many() {
        about("promise 36");
        GumHall x = busyHall();
        x.reading(0, 0, 0, 9);
        x.reading(0, 0, 0, 9);
        x.move(0, 1, 0);
        x.scrape(0, 0);
        x.scrape(0, 0);
        for (int what = 0; what < 6; what++) due("many " + what, x.many(what), new int[] {3, 3, 6, 2, 3, 2}[what]);
        due("what 6", x.many(6), OUTSIDE);
        due("what -1", x.many(-1), OUTSIDE);
    }
}
