/** Each sentence of the promises 12 to 22 that names a boundary case; each test quotes its own. */
public final class RouteEdgesTest {
    private static final int ALL_DAY = Made.ALL_DAY;
    private static final int NOT_POSSIBLE = 1000000;
    private static final Class<IndexOutOfBoundsException> INDEX = IndexOutOfBoundsException.class;

    public static void main(String[] args) {
        putPlaces();
        putNoSuch();
        putRefused();
        putByHowMuch();
        takeNone();
        takeFirstAndLast();
        routePlaces();
        vanFacts();
        vanWithout();
        stopPlaces();
        stopFacts();
        addsPlaces();
        addsWhetherItWaitsOrNot();
        addsOnceMore();
        addsNotPossible();
        cheapestNoSuch();
        cheapestOfSeveral();
        cheapestByOne();
        cheapestNowhere();
        cheapestLastPlace();
        planNothing();
        planAll();
        planAsLongAsThereIsOne();
        planOfSeveral();
        planByOne();
        planWhatIsLess();
        improveNoSuch();
        improveNothing();
        improveByOne();
        improveFromTheFirstToTheLast();
        improveAtTheEnds();
        improveOfSeveral();
        improveAsMuchAsTheRoom();
        moveNothing();
        moveByOne();
        moveFromEndToEnd();
        moveBehindAll();
        moveToElevenOrTwelve();
        moveAsMuchAsTheRoom();
        moveOfSeveral();
        countWhat();
        countAll();
        Check.end();
    }

    /** Van 0, home 0 at the depot, home 1 at the distance 10, and as many parcels on the route as these. */
    private static LastMile withStops(int stops) {
        LastMile x = Made.near(480, 1439);
        for (int i = 0; i < stops; i++) {
            Made.stopAt(x, 0, 0, 1439);
        }
        return x;
    }

    /** "The place in its route, from 0 (ahead of the one that is there) to the number of its parcels (behind all)". */
    private static void putPlaces() {
        for (int stops : new int[] {0, 1, 2, 11}) {
            Check.range("promise 12: place of " + stops + " and one", 0, stops, INDEX, () -> {
                LastMile x = withStops(stops);
                x.addParcel(0, 1, 0, 0, 1439);
                return x;
            }, (x, v) -> x.put(stops, 0, v));
        }
        LastMile x = withStops(2);
        x.addParcel(0, 1, 0, 0, 1439);
        x.addParcel(0, 1, 0, 0, 1439);
        x.put(2, 0, 0);
        Made.row("promise 12: ahead of all", x, 0, 2, 0, 1);
        x.put(3, 0, 3);
        Made.row("promise 12: behind all", x, 0, 2, 0, 1, 3);
    }

    /** "If there is no such parcel, van or place": ahead of all that is named behind it. */
    private static void putNoSuch() {
        Check.range("promise 12: parcel of 30", 0, 29, INDEX, Made::full, (x, v) -> x.put(v, 0, 0));
        Check.range("promise 12: van of 4", 0, 3, INDEX, Made::full, (x, v) -> x.put(0, v, 0));
        LastMile x = withStops(12);
        x.addParcel(0, 1, 0, 0, 1439);
        Check.index("promise 12: it is on a route, no such van", x, () -> x.put(0, 1, 0));
        Check.index("promise 12: it is on a route, no such place", x, () -> x.put(0, 0, 13));
        Check.index("promise 12: not possible, no such place", x, () -> x.put(12, 0, 13));
        Check.index("promise 12: not possible, no such place", x, () -> x.put(12, 0, -1));
        Check.state("promise 12: not possible", x, () -> x.put(12, 0, 12));
        x.drive();
        Check.index("promise 12: it does not wait, no such place", x, () -> x.put(0, 0, 1));
        Check.index("promise 12: it does not wait, no such van", x, () -> x.put(0, 1, 0));
        Check.state("promise 12: it does not wait", x, () -> x.put(0, 0, 0));
    }

    /** "If it does not wait, it is on a route, or the route would not be possible": each of them alone. */
    private static void putRefused() {
        LastMile x = withStops(1);
        x.addVan(10, 480, 1439);
        x.addParcel(0, 11, 0, 0, 1439);
        x.addParcel(0, 10, 0, 0, 1439);
        Check.state("promise 12: it is on this route", x, () -> x.put(0, 0, 1));
        Check.state("promise 12: it is on another route", x, () -> x.put(0, 1, 0));
        Check.state("promise 12: more than the room", x, () -> x.put(1, 1, 0));
        Check.due("promise 12: as much as the room", x.put(2, 1, 0), 0);
        x.drive();
        Check.state("promise 12: it was handed over", x, () -> x.put(0, 0, 0));
        Check.due("promise 12: what was refused waits", x.put(1, 0, 0), 0);
    }

    /** "Returns by how much the cost of the route is greater (less than 0: less)". */
    private static void putByHowMuch() {
        LastMile x = withStops(1);
        Check.due("promise 12: as before", Made.stopAt(x, 0, 0, 1439), 0);
        Check.due("promise 12: greater", Made.stopAt(x, 1, 0, 1439), 20);
        LastMile y = Made.near(480, 1439);
        y.setRoads(9, 9);
        Made.stopAt(y, 1, 0, 1439);
        y.addParcel(0, 1, 1, 540, 1439);
        Check.due("promise 12: less by 1, on the way back", y.put(1, 0, 1), -1);
        Check.due("promise 13: greater by 1", y.take(1), -1);
    }

    /** "If there is no such parcel"; "if it is on none". */
    private static void takeNone() {
        Check.range("promise 13: parcel of 30", 0, 29, INDEX, () -> {
            LastMile x = Made.full();
            x.plan();
            return x;
        }, (x, v) -> x.take(v));
        LastMile x = withStops(1);
        x.addParcel(0, 1, 0, 0, 1439);
        Check.state("promise 13: it never was on one", x, () -> x.take(1));
        x.take(0);
        Check.state("promise 13: it was taken out", x, () -> x.take(0));
        x.put(0, 0, 0);
        x.drive();
        Check.state("promise 13: the routes are empty", x, () -> x.take(0));
    }

    /** The first and the last of a route of twelve; and the only one. */
    private static void takeFirstAndLast() {
        LastMile x = withStops(11);
        Made.stopAt(x, 1, 0, 1439);
        Check.due("promise 13: the last of twelve", x.take(11), 20);
        Made.row("promise 13: without the last", x, 0, 0, 1, 2, 3, 4, 5, 6, 7, 8, 9, 10);
        Check.due("promise 13: the first of eleven", x.take(0), 0);
        Made.row("promise 13: without the first", x, 0, 1, 2, 3, 4, 5, 6, 7, 8, 9, 10);
        LastMile y = Made.near(480, 1439);
        Made.stopAt(y, 1, 0, 1439);
        Check.due("promise 13: the only one", y.take(0), 20);
        Made.row("promise 13: without any", y, 0);
        Check.due("promise 13: a route without any costs nothing", y.van(0, 4), 0);
    }

    /** "If there is no such van or place". */
    private static void routePlaces() {
        Check.range("promise 14: place of 1", 0, 0, INDEX, () -> withStops(1), (x, v) -> x.route(0, v));
        Check.range("promise 14: place of 12", 0, 11, INDEX, () -> withStops(12), (x, v) -> x.route(0, v));
        Check.range("promise 14: van of 1", 0, 0, INDEX, () -> withStops(1), (x, v) -> x.route(v, 0));
        LastMile x = withStops(0);
        Check.index("promise 14: an empty route", x, () -> x.route(0, 0));
        LastMile y = withStops(1);
        y.take(0);
        Check.index("promise 14: a route that is empty again", y, () -> y.route(0, 0));
    }

    /** "If there is no such van, or what is not 0 to 9". */
    private static void vanFacts() {
        Check.range("promise 15: van of 1", 0, 0, INDEX, () -> withStops(0), (x, v) -> x.van(v, 0));
        Check.range("promise 15: van of 4", 0, 3, INDEX, Made::full, (x, v) -> x.van(v, 9));
        Check.range("promise 15: what", 0, 9, INDEX, Made::full, (x, v) -> x.van(3, v));
    }

    /** A route without parcels: "the van begins at the depot", and is back in the first minute of its shift. */
    private static void vanWithout() {
        for (int start = 0; start <= 1439; start += 1439) {
            LastMile x = new LastMile();
            x.addVan(10, start, start);
            int[] due = {10, start, start, 0, 0, 0, 0, start, 0, 0};
            for (int what = 0; what < 10; what++) {
                Check.due("promise 15: without parcels, van(0, " + what + ")", x.van(0, what), due[what]);
            }
        }
    }

    /** "If there is no such van or place". */
    private static void stopPlaces() {
        Check.range("promise 16: place of 1", 0, 0, INDEX, () -> withStops(1), (x, v) -> x.stop(0, v, 0));
        Check.range("promise 16: place of 12", 0, 11, INDEX, () -> withStops(12), (x, v) -> x.stop(0, v, 3));
        Check.range("promise 16: van of 1", 0, 0, INDEX, () -> withStops(1), (x, v) -> x.stop(v, 0, 0));
        LastMile x = withStops(0);
        Check.index("promise 16: an empty route", x, () -> x.stop(0, 0, 0));
    }

    /** "Or what is not 0 to 3"; the first and the last stop of twelve. */
    private static void stopFacts() {
        Check.range("promise 16: what", 0, 3, INDEX, () -> withStops(12), (x, v) -> x.stop(0, 11, v));
        LastMile x = withStops(11);
        Made.stopAt(x, 1, 0, 490);
        Check.due("promise 16: the first stop", x.stop(0, 0, 0), 480);
        Check.due("promise 16: the load behind the first stop", x.stop(0, 0, 2), 11);
        Check.due("promise 16: the last stop", x.stop(0, 11, 0), 480 + 44 + 10);
        Check.due("promise 16: the last stop is late", x.stop(0, 11, 1), 44);
        Check.due("promise 16: the load behind the last stop", x.stop(0, 11, 2), 0);
    }

    /** "A place in its route, as put() has it"; "if there is no such parcel, van or place". */
    private static void addsPlaces() {
        for (int stops : new int[] {1, 2, 11, 12}) {
            Check.range("promise 17: place of " + stops + " and one", 0, stops, INDEX, () -> withStops(stops),
                (x, v) -> x.adds(0, 0, v));
        }
        Check.range("promise 17: parcel of 30", 0, 29, INDEX, Made::full, (x, v) -> x.adds(v, 0, 0));
        Check.range("promise 17: van of 4", 0, 3, INDEX, Made::full, (x, v) -> x.adds(0, v, 0));
        LastMile x = withStops(0);
        x.addParcel(0, 1, 0, 0, 1439);
        Check.due("promise 17: the only place of an empty route", x.adds(0, 0, 0), 0);
        Check.index("promise 17: behind the only place", x, () -> x.adds(0, 0, 1));
    }

    /** "Whether it waits or not". */
    private static void addsWhetherItWaitsOrNot() {
        LastMile x = Made.oneHome(ALL_DAY);
        x.addHome(30, 50, 0);
        Made.stopAt(x, 0, 0, 1439);
        Made.stopAt(x, 1, 0, 1439);
        for (int day = 0; day < 3; day++) {
            x.drive();
            Check.due("promise 17: it was handed over", x.adds(0, 0, 0), 20);
            Check.due("promise 17: it waits, or was given up", x.adds(1, 0, 0), 40);
            if (day < 2) {
                x.put(1, 0, 0);
                Check.due("promise 17: it was handed over, on the way", x.adds(0, 0, 0), 0);
                Check.due("promise 17: it was handed over, on the way back", x.adds(0, 0, 1), 0);
            }
        }
        Check.due("promise 17: it was given up", x.parcel(1, 6), 4);
    }

    /** "On whichever route it is: then it would be there once more; nothing is changed". */
    private static void addsOnceMore() {
        LastMile x = new LastMile();
        x.addHome(30, 40, 0);
        x.addVan(40, 480, 504);
        x.addVan(40, 480, 503);
        x.put(x.addParcel(0, 20, 0, 0, 490), 0, 0);
        long before = x.digest();
        Check.due("promise 17: 4 late, and 4 behind the end", x.adds(0, 0, 0), 12 + 8);
        Check.due("promise 17: behind itself, the same", x.adds(0, 0, 1), 12 + 8);
        Check.due("promise 17: on another one, 1 behind the end", x.adds(0, 1, 0), 22);
        Check.due("promise 17: nothing is changed", x.digest(), before);
        Check.due("promise 17: it is there once", x.van(0, 3), 1);
        LastMile y = new LastMile();
        y.addHome(30, 40, 0);
        y.addVan(39, 480, 504);
        y.put(y.addParcel(0, 20, 0, 0, 490), 0, 0);
        Check.due("promise 17: twice its volume is 1 more than the room", y.adds(0, 0, 0), NOT_POSSIBLE);
    }

    /** "1000000 if the route would not be possible". */
    private static void addsNotPossible() {
        Check.due("promise 17: a twelfth", withStops(11).adds(0, 0, 11), 0);
        Check.due("promise 17: a thirteenth", withStops(12).adds(0, 0, 12), NOT_POSSIBLE);
        Check.due("promise 17: a thirteenth, ahead of all", withStops(12).adds(0, 0, 0), NOT_POSSIBLE);
        LastMile x = new LastMile();
        x.addHome(30, 30, 0);
        x.addVan(10, 480, 1000);
        for (int kind = 0; kind <= 2; kind++) {
            int fits = x.addParcel(kind, 10, 0, 0, 1439);
            int doesNot = x.addParcel(kind, 11, 0, 0, 1439);
            Check.due("promise 17: as much as the room, kind " + kind, x.adds(fits, 0, 0), 0);
            Check.due("promise 17: 1 more than the room, kind " + kind, x.adds(doesNot, 0, 0), NOT_POSSIBLE);
        }
    }

    /** "If there is no such parcel". */
    private static void cheapestNoSuch() {
        Check.range("promise 18: parcel of 30", 0, 29, INDEX, Made::full, (x, v) -> x.cheapest(v));
        Check.range("promise 18: parcel of 1", 0, 0, INDEX, () -> withStops(1), (x, v) -> x.cheapest(v));
    }

    /** "Of several the least number": of equal vans, and of equal places. */
    private static void cheapestOfSeveral() {
        LastMile x = withStops(0);
        for (int i = 0; i < 3; i++) {
            x.addVan(200, 480, 1439);
        }
        x.addParcel(0, 1, 0, 0, 1439);
        Check.due("promise 18: four empty routes", x.cheapest(0), 0);
        LastMile y = withStops(11);
        y.addVan(200, 480, 1439);
        y.addParcel(0, 1, 0, 0, 1439);
        Check.due("promise 18: twelve places, and another van", y.cheapest(11), 0);
        LastMile z = new LastMile();
        z.addHome(30, 30, 0);
        z.addVan(10, 480, 1439);
        for (int i = 0; i < 3; i++) {
            z.addVan(11, 480, 1439);
        }
        z.addParcel(0, 11, 0, 0, 1439);
        Check.due("promise 18: the first of those that have room", z.cheapest(0), 16);
    }

    /** "The place where putting it in makes the cost the least greater": by 1 alone, on the last of four vans. */
    private static void cheapestByOne() {
        LastMile x = Made.near(480, 1439);
        x.setRoads(10, 9);
        for (int i = 0; i < 3; i++) {
            x.addVan(200, i < 2 ? 480 : 590, 1439);
        }
        Made.stopAt(x, 1, 0, 1439);
        x.take(0);
        Check.due("promise 18: ten minutes each", x.adds(0, 0, 0), 20);
        Check.due("promise 18: back at better roads", x.adds(0, 3, 0), 19);
        Check.due("promise 18: less by 1", x.cheapest(0), 48);
    }

    /** "-1 if it cannot be put in anywhere". */
    private static void cheapestNowhere() {
        LastMile none = new LastMile();
        none.addHome(30, 30, 0);
        none.addParcel(0, 1, 0, 0, 1439);
        Check.due("promise 18: there are no vans", none.cheapest(0), -1);
        LastMile x = withStops(11);
        x.addParcel(0, 1, 0, 0, 1439);
        x.addParcel(0, 1, 0, 0, 1439);
        Check.due("promise 18: a twelfth", x.cheapest(12), 0);
        x.put(11, 0, 0);
        Check.due("promise 18: a thirteenth", x.cheapest(12), -1);
        Check.due("promise 18: it is on a route", x.cheapest(11), -1);
        x.drive();
        Check.due("promise 18: it was handed over", x.cheapest(11), -1);
        LastMile y = new LastMile();
        y.addHome(30, 30, 0);
        y.addVan(10, 480, 1000);
        y.addParcel(0, 11, 0, 0, 1439);
        y.addParcel(0, 10, 0, 0, 1439);
        Check.due("promise 18: 1 more than the room", y.cheapest(0), -1);
        Check.due("promise 18: as much as the room", y.cheapest(1), 0);
    }

    /** The last place of all: behind eleven, each of which would be late behind one more, on the fourth van. */
    private static void cheapestLastPlace() {
        LastMile x = new LastMile();
        x.addHome(30, 30, 0);
        for (int i = 0; i < 4; i++) {
            x.addVan(i < 3 ? 10 : 200, 480, 1439);
        }
        for (int i = 0; i < 11; i++) {
            x.put(x.addParcel(0, 1, 0, 0, 480 + 4 * i), 3, i);
        }
        x.addParcel(0, 11, 0, 0, 1439);
        Check.due("promise 18: ahead of the last one", x.adds(11, 3, 10), 12);
        Check.due("promise 18: behind eleven on the fourth van", x.cheapest(11), 16 * 3 + 11);
        Check.due("promise 19: it is put in", x.plan(), 1);
        Check.due("promise 19: there", x.route(3, 11), 11);
    }

    /** "Returns how many are put in": none. */
    private static void planNothing() {
        Check.due("promise 19: nothing at all", new LastMile().plan(), 0);
        Check.due("promise 19: no parcels", withStops(0).plan(), 0);
        Check.due("promise 19: all are on a route", withStops(2).plan(), 0);
        LastMile x = withStops(2);
        x.drive();
        Check.due("promise 19: none waits", x.plan(), 0);
        LastMile y = new LastMile();
        y.addHome(30, 30, 0);
        y.addParcel(0, 1, 0, 0, 1439);
        Check.due("promise 19: no vans", y.plan(), 0);
    }

    /** All parcels that there may be, on vans that have as many places, or fewer. */
    private static void planAll() {
        for (int vans = 1; vans <= 4; vans++) {
            LastMile x = new LastMile();
            x.addHome(30, 31, 0);
            for (int i = 0; i < vans; i++) {
                x.addVan(200, 480, 1439);
            }
            for (int i = 0; i < 30; i++) {
                x.addParcel(i % 3, 1, 0, 0, 1439);
            }
            int places = Math.min(30, 12 * vans);
            Check.due("promise 19: put in on " + vans, x.plan(), places);
            Check.due("promise 19: left", x.count(6), 30 - places);
            Check.due("promise 19: on the first", x.van(0, 3), 12);
            Check.due("promise 19: on the last", x.van(vans - 1, 3), vans == 3 ? 6 : vans == 4 ? 0 : 12);
            Check.due("promise 19: again", x.plan(), 0);
        }
    }

    /** "As long as there is one that can be put in": those that cannot are left, the others are not. */
    private static void planAsLongAsThereIsOne() {
        LastMile x = new LastMile();
        x.addHome(30, 30, 0);
        x.addHome(30, 40, 0);
        x.addVan(10, 480, 1439);
        x.addParcel(0, 11, 0, 0, 1439);
        x.addParcel(0, 10, 1, 0, 1439);
        x.addParcel(2, 11, 0, 0, 1439);
        x.addParcel(2, 10, 1, 0, 1439);
        Check.due("promise 19: as much as the room alone", x.plan(), 2);
        Made.row("promise 19: it is brought ahead of what is fetched", x, 0, 1, 3);
        Check.due("promise 19: 1 more than the room", x.parcel(0, 7) + x.parcel(2, 7), -2);
    }

    /** "Of several the one with the smallest number, there": at its cheapest place. */
    private static void planOfSeveral() {
        LastMile x = withStops(0);
        x.addParcel(0, 1, 1, 0, 1439);
        x.addParcel(0, 1, 1, 0, 1439);
        x.addParcel(0, 1, 1, 0, 1439);
        Check.due("promise 19: three that are equal", x.plan(), 3);
        Made.row("promise 19: each ahead of those with smaller numbers", x, 0, 2, 1, 0);
        LastMile y = new LastMile();
        y.addHome(30, 40, 0);
        y.addVan(10, 480, 1439);
        for (int i = 0; i < 3; i++) {
            y.addParcel(0, 10, 0, 0, 1439);
        }
        Check.due("promise 19: room for one", y.plan(), 1);
        Made.row("promise 19: the smallest number", y, 0, 0);
    }

    /** "The one whose cheapest place makes the cost the least greater": by 1 alone, with the greater number. */
    private static void planByOne() {
        for (int from = 595; from <= 596; from++) {
            LastMile x = new LastMile();
            x.setRoads(10, 9);
            x.addHome(30, 40, 0);
            x.addVan(10, 480, 1439);
            x.addParcel(0, 10, 0, 0, 1439);
            x.addParcel(0, 10, 0, from, 1439);
            Check.due("promise 19: room for one", x.plan(), 1);
            Made.row("promise 19: the way back from " + (from + 4), x, 0, from == 595 ? 0 : 1);
        }
    }

    /** The cost may become less too: the one that makes it so is put in first. */
    private static void planWhatIsLess() {
        LastMile x = Made.near(480, 1439);
        x.setRoads(9, 9);
        Made.stopAt(x, 1, 0, 1439);
        x.addParcel(0, 1, 1, 0, 1439);
        x.addParcel(0, 1, 1, 540, 1439);
        Check.due("promise 19: one makes it less by 1", x.adds(2, 0, 1), -1);
        Check.due("promise 19: both", x.plan(), 2);
        // 2 is put in ahead of 0, where it makes it less too; then 1 ahead of both.
        Made.row("promise 19: in their places", x, 0, 1, 2, 0);
        Check.due("promise 19: the cost", x.van(0, 4), 19);
    }

    /** "If there is no such van". */
    private static void improveNoSuch() {
        Check.range("promise 20: van of 1", 0, 0, INDEX, () -> withStops(2), (x, v) -> x.improve(v));
        Check.range("promise 20: van of 4", 0, 3, INDEX, Made::full, (x, v) -> x.improve(v));
    }

    /** "0 if nothing is done": no part to turn, or none by which it is less. */
    private static void improveNothing() {
        for (int stops : new int[] {0, 1, 2, 3, 12}) {
            LastMile x = withStops(stops);
            long before = x.digest();
            Check.due("promise 20: " + stops + " that are equal", x.improve(0), 0);
            Check.due("promise 20: nothing is done", x.digest(), before);
        }
        LastMile x = Made.near(480, 1439);
        Made.stopAt(x, 1, 0, 1439);
        Made.stopAt(x, 0, 0, 1439);
        long before = x.digest();
        Check.due("promise 20: turned round it costs as much", x.improve(0), 0);
        Check.due("promise 20: nothing is done", x.digest(), before);
    }

    /** In a line at the distances 1, 3 and 2; to go from 1 to 3 takes 3 minutes by roads of 6, else 2 and 1. */
    private static LastMile oneTooMany() {
        LastMile x = new LastMile();
        x.setRoads(8, 6);
        x.addVan(40, 480, 1000);
        int[] places = {29, 33, 32};
        for (int i = 0; i < 3; i++) {
            x.addHome(places[i], 30, 0);
            Made.stopAt(x, i, 0, 1439);
        }
        return x;
    }

    /** "If this is less than now": by 1 alone. */
    private static void improveByOne() {
        LastMile x = oneTooMany();
        Check.due("promise 20: the cost", x.van(0, 4), 7);
        Check.due("promise 20: less by 1", x.improve(0), 1);
        Made.row("promise 20: less by 1", x, 0, 0, 2, 1);
        Check.due("promise 20: the cost", x.van(0, 4), 6);
        Check.due("promise 20: not less any more", x.improve(0), 0);
    }

    /** Twelve at the depot; each is late, unless it comes at its due place at the latest. */
    private static LastMile duePlaces(int... due) {
        LastMile x = Made.near(480, 1439);
        for (int place : due) {
            Made.stopAt(x, 0, 0, 480 + 4 * place);
        }
        return x;
    }

    /** "To turn round a part of it, from a place to a greater one": all of it. */
    private static void improveFromTheFirstToTheLast() {
        LastMile x = duePlaces(11, 10, 9, 8, 7, 6, 5, 4, 3, 2, 1, 0);
        Check.due("promise 20: all twelve are turned round", x.improve(0), 3 * (4 + 12 + 20 + 28 + 36 + 44));
        Made.row("promise 20: all twelve are turned round", x, 0, 11, 10, 9, 8, 7, 6, 5, 4, 3, 2, 1, 0);
        Check.due("promise 20: none is late", x.van(0, 6), 0);
    }

    /** The same: the first two, the last two, and two in the middle. */
    private static void improveAtTheEnds() {
        LastMile x = duePlaces(1, 0, 2, 3, 4, 5, 6, 7, 8, 9, 10, 11);
        Check.due("promise 20: the first two", x.improve(0), 12);
        Made.row("promise 20: the first two", x, 0, 1, 0, 2, 3, 4, 5, 6, 7, 8, 9, 10, 11);
        LastMile y = duePlaces(0, 1, 2, 3, 4, 5, 6, 7, 8, 9, 11, 10);
        Check.due("promise 20: the last two", y.improve(0), 12);
        Made.row("promise 20: the last two", y, 0, 0, 1, 2, 3, 4, 5, 6, 7, 8, 9, 11, 10);
        LastMile z = duePlaces(0, 1, 2, 3, 4, 6, 5, 7, 8, 9, 10, 11);
        Check.due("promise 20: two in the middle", z.improve(0), 12);
        Made.row("promise 20: two in the middle", z, 0, 0, 1, 2, 3, 4, 6, 5, 7, 8, 9, 10, 11);
        LastMile two = duePlaces(1, 0);
        Check.due("promise 20: a route of two", two.improve(0), 12);
        Made.row("promise 20: a route of two", two, 0, 1, 0);
    }

    /** "Of several the one that begins first, of these the one that ends first". */
    private static void improveOfSeveral() {
        LastMile x = duePlaces(1, 0, 2, 3, 5, 4);
        Check.due("promise 20: two parts save as much", x.improve(0), 12);
        Made.row("promise 20: the one that begins first", x, 0, 1, 0, 2, 3, 4, 5);
        Check.due("promise 20: then the other one", x.improve(0), 12);
        Made.row("promise 20: then the other one", x, 0, 1, 0, 2, 3, 5, 4);
        // To turn round the first two, or all three, makes one of two come 4 minutes earlier.
        LastMile y = duePlaces(9, 0, 1);
        Check.due("promise 20: two parts that begin there save as much", y.improve(0), 12);
        Made.row("promise 20: the one that ends first", y, 0, 1, 0, 2);
    }

    /** "That leave it possible": as much as the room, or 1 more. */
    private static void improveAsMuchAsTheRoom() {
        for (int room = 39; room <= 40; room++) {
            LastMile x = new LastMile();
            x.addHome(30, 30, 0);
            x.addVan(room, 480, 1000);
            x.put(x.addParcel(0, 20, 0, 0, 1439), 0, 0);
            x.put(x.addParcel(2, 20, 0, 0, 480), 0, 1);
            Check.due("promise 20: room " + room, x.improve(0), room == 40 ? 12 : 0);
            Made.row("promise 20: room " + room, x, 0, room == 40 ? 1 : 0, room == 40 ? 0 : 1);
        }
    }

    /** "0 if nothing is done". */
    private static void moveNothing() {
        Check.due("promise 21: nothing at all", new LastMile().move(), 0);
        for (int stops : new int[] {0, 1, 2, 12}) {
            LastMile x = withStops(stops);
            x.addVan(200, 480, 1439);
            x.addParcel(0, 1, 1, 0, 1439);
            long before = x.digest();
            Check.due("promise 21: " + stops + " that are equal", x.move(), 0);
            Check.due("promise 21: nothing is done", x.digest(), before);
        }
        LastMile other = withStops(0);
        other.addVan(200, 480, 1439);
        other.put(other.addParcel(0, 1, 1, 0, 1439), 1, 0);
        Check.due("promise 21: it would cost as much on the van 0", other.move(), 0);
        Made.row("promise 21: it stays on the van 1", other, 1, 0);
        LastMile late = Made.near(480, 1439);
        Made.stopAt(late, 0, 0, 0);
        Check.due("promise 21: the only one, late in any case", late.move(), 0);
        Made.row("promise 21: it stays", late, 0, 0);
    }

    /** "If this is less than now": by 1 alone. */
    private static void moveByOne() {
        LastMile x = oneTooMany();
        Check.due("promise 21: less by 1", x.move(), 1);
        Made.row("promise 21: the smallest number, behind all", x, 0, 1, 2, 0);
        Check.due("promise 21: the cost", x.count(11), 6);
        Check.due("promise 21: not less any more", x.move(), 0);
    }

    /** "To put it in at a place of the same route (as it is without it)": on a route of twelve. */
    private static void moveFromEndToEnd() {
        LastMile x = duePlaces(11, 0, 1, 2, 3, 4, 5, 6, 7, 8, 9, 10);
        Check.due("promise 21: the first to the end", x.move(), 3 * 4 * 11);
        Made.row("promise 21: the first to the end", x, 0, 1, 2, 3, 4, 5, 6, 7, 8, 9, 10, 11, 0);
        LastMile y = duePlaces(1, 2, 3, 4, 5, 6, 7, 8, 9, 10, 11, 0);
        Check.due("promise 21: the last to the beginning", y.move(), 3 * 44);
        Made.row("promise 21: the last to the beginning", y, 0, 11, 0, 1, 2, 3, 4, 5, 6, 7, 8, 9, 10);
    }

    /** "Or another one": also behind all that are there. */
    private static void moveBehindAll() {
        LastMile x = Made.near(600, 1439);
        x.addVan(200, 480, 1439);
        Made.stopAt(x, 0, 0, 484);
        x.put(x.addParcel(0, 1, 0, 0, 480), 1, 0);
        Check.due("promise 21: 116 minutes less late", x.move(), 3 * 116);
        Made.row("promise 21: behind the one that is there", x, 1, 1, 0);
        Made.row("promise 21: none is left", x, 0);
    }

    /** "So that this is possible": a twelfth, and a thirteenth. */
    private static void moveToElevenOrTwelve() {
        for (int stops = 11; stops <= 12; stops++) {
            LastMile x = withStops(stops);
            x.addVan(200, 600, 1439);
            x.put(x.addParcel(0, 1, 0, 0, 599), 1, 0);
            Check.due("promise 21: to " + stops, x.move(), stops == 11 ? 3 : 0);
            Check.due("promise 21: it is on the route of", x.parcel(stops, 7), stops == 11 ? 0 : 1);
        }
    }

    /** The same: as much as the room, or 1 more. */
    private static void moveAsMuchAsTheRoom() {
        for (int room = 39; room <= 40; room++) {
            LastMile x = new LastMile();
            x.addHome(30, 30, 0);
            x.addVan(room, 480, 1439);
            x.addVan(200, 600, 1439);
            x.put(x.addParcel(0, 25, 0, 0, 1439), 0, 0);
            x.put(x.addParcel(1, 15, 0, 0, 599), 1, 0);
            Check.due("promise 21: room " + room, x.move(), room == 40 ? 3 : 0);
            Made.row("promise 21: what was late, room " + room, x, 1, room == 40 ? new int[0] : new int[] {1});
        }
    }

    /** "Of several the one with the smallest number of the parcel, of these that with the least 16 * van + place". */
    private static void moveOfSeveral() {
        LastMile x = Made.near(480, 1439);
        x.addVan(200, 480, 1439);
        x.addVan(200, 480, 1439);
        x.put(x.addParcel(0, 1, 0, 0, 480), 2, 0);
        x.put(x.addParcel(0, 1, 0, 0, 480), 2, 0);
        Check.due("promise 21: either of two, to either of two vans", x.move(), 12);
        Made.row("promise 21: the smallest number, to the first van", x, 0, 0);
        Made.row("promise 21: the other one stays", x, 2, 1);
        LastMile y = withStops(0);
        y.addVan(200, 480, 1439);
        y.put(y.addParcel(0, 1, 0, 0, 1439), 0, 0);
        y.put(y.addParcel(0, 1, 0, 0, 480), 0, 1);
        Check.due("promise 21: either of two, or to another van", y.move(), 12);
        Made.row("promise 21: the smallest number, on its route", y, 0, 1, 0);
    }

    /** "If what is not 0 to 11". */
    private static void countWhat() {
        Check.range("promise 22: what", 0, 11, INDEX, LastMile::new, (x, v) -> x.count(v));
        Check.range("promise 22: what, of all there may be", 0, 11, INDEX, Made::full, (x, v) -> x.count(v));
    }

    /** As many as there may be of each. */
    private static void countAll() {
        LastMile x = Made.full();
        int[] due = {0, 16, 4, 4, 30, 30, 30, 0, 0, 0, 0, 0};
        for (int what = 0; what < 12; what++) {
            Check.due("promise 22: count(" + what + ")", x.count(what), due[what]);
        }
        Check.due("promise 22: put in", x.plan(), 30);
        Check.due("promise 22: on a route they wait", x.count(5), 30);
        Check.due("promise 22: on no route", x.count(6), 0);
        Check.due("promise 22: the cost of all routes", x.count(11),
            x.van(0, 4) + x.van(1, 4) + x.van(2, 4) + x.van(3, 4));
        x.drive();
        int inStates = x.count(5) + x.count(7) + x.count(8) + x.count(9) + x.count(10);
        Check.due("promise 22: each is in one state", inStates, 30);
        Check.due("promise 22: the day", x.count(0), 1);
        Check.due("promise 22: all that wait are on no route", x.count(6), x.count(5));
        Check.due("promise 22: routes without parcels cost nothing", x.count(11), 0);
    }
}
