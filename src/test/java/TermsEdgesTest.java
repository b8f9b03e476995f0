/** Each sentence of "Terms", up to "Planning a route", that names a boundary case; each test quotes its own. */
public final class TermsEdgesTest {
    private static final int ALL_DAY = Made.ALL_DAY;

    public static void main(String[] args) {
        distances();
        places();
        hourOfAMinute();
        tableOfTheMinuteOfBeginning();
        waysAreRoundedUp();
        howSlow();
        depotAtFirst();
        homes();
        eachHourOfAHome();
        ordersOfAHome();
        lockers();
        parcels();
        aParcelAtFirst();
        vans();
        twelveOnARoute();
        onlyWhatWaits();
        onAtMostOneRoute();
        beginsInTheFirstMinute();
        breakOnTheWayOut();
        breakOnTheWay();
        breakOnTheWayBack();
        workFromTheLatestBreak();
        wayAsItWouldBeginNow();
        wayBeginsBehindTheBreak();
        oneBreakAheadOfAWay();
        waitsTillTheWindow();
        lateBehindTheWindow();
        fourMinutesOfAStop();
        costOfBeingLate();
        costBehindTheShift();
        loadAtTheDepot();
        loadOnTheWay();
        loadAtTheEnd();
        throwingChangesNothing();
        Check.end();
    }

    /** "The distance of two places is the difference of x and that of y, without their signs, added". */
    private static void distances() {
        int[][] homes = {{33, 34, 7}, {27, 34, 7}, {33, 26, 7}, {27, 26, 7}, {30, 31, 1}, {29, 30, 1}, {30, 30, 0},
            {0, 0, 60}, {60, 60, 60}, {0, 60, 60}, {60, 0, 60}};
        for (int[] home : homes) {
            LastMile x = new LastMile();
            x.addVan(10, 0, 1439);
            Made.stopAt(x, x.addHome(home[0], home[1], 0), 0, 1439);
            Check.due("terms: the way to (" + home[0] + ", " + home[1] + ")", x.stop(0, 0, 0), home[2]);
            Check.due("terms: the ways to it and back", x.van(0, 5), 2 * home[2]);
        }
    }

    /** "Places are told as x, y, 0 to 60 each". */
    private static void places() {
        Class<IllegalArgumentException> refused = IllegalArgumentException.class;
        Check.range("terms: x of the depot", 0, 60, refused, LastMile::new, (x, v) -> x.setDepot(v, 30));
        Check.range("terms: y of the depot", 0, 60, refused, LastMile::new, (x, v) -> x.setDepot(30, v));
        Check.range("terms: x of a home", 0, 60, refused, LastMile::new, (x, v) -> x.addHome(v, 30, 0));
        Check.range("terms: y of a home", 0, 60, refused, LastMile::new, (x, v) -> x.addHome(30, v, 0));
        Check.range("terms: x of a locker", 0, 60, refused, LastMile::new, (x, v) -> x.addLocker(v, 30, 1, 1, 1));
        Check.range("terms: y of a locker", 0, 60, refused, LastMile::new, (x, v) -> x.addLocker(30, v, 1, 1, 1));
    }

    /** "Its hour is minute / 60 (by the remainder of 24 behind midnight)". */
    private static void hourOfAMinute() {
        int[][] due = {{0, 0}, {59, 0}, {60, 1}, {119, 1}, {120, 2}, {1379, 22}, {1380, 23}, {1439, 23}};
        for (int[] minute : due) {
            LastMile x = new LastMile();
            x.addHome(30, 30, 1 << minute[1]);
            x.addVan(10, minute[0], 1439);
            Made.stopAt(x, 0, 0, 1439);
            Check.due("terms: the hour of the minute " + minute[0], x.stop(0, 0, 3), 1);
        }
        for (int hour = 0; hour <= 23; hour += 23) {
            LastMile x = new LastMile();
            x.addHome(30, 30, 1 << hour);
            x.addVan(10, hour == 0 ? 1436 : 1435, 1439);
            Made.stopAt(x, 0, 0, 1439);
            Made.stopAt(x, 0, 0, 1439);
            Check.due("terms: the last minute of the day, or midnight", x.stop(0, 1, 0), hour == 0 ? 1440 : 1439);
            Check.due("terms: its hour is " + hour, x.stop(0, 1, 3), 1);
            theNextMidnight(hour);
        }
    }

    /** Four ways of 360 minutes, each behind a break: the fourth stop is 1572 minutes behind the first minute. */
    private static void theNextMidnight(int hour) {
        LastMile x = Made.away(120, 30);
        x.setRoads(0, 5);
        x.addHome(0, 0, 1 << hour);
        x.addVan(10, hour == 0 ? 1308 : 1307, 1439);
        for (int i = 0; i < 5; i++) {
            Made.stopAt(x, i % 2, 0, 1439);
        }
        Check.due("terms: the next midnight", x.stop(0, 3, 0), hour == 0 ? 2880 : 2879);
        Check.due("terms: its hour is " + hour, x.stop(0, 3, 3), 1);
        Check.due("terms: by the roads of the hour 0", x.stop(0, 4, 0), x.stop(0, 3, 0) + 4 + 30 + 60);
    }

    /** "Beginning in the minute t, ... with the table of the hour of t". */
    private static void tableOfTheMinuteOfBeginning() {
        int[][] due = {{0, 10, 0}, {539, 10, 8}, {540, 20, 9}, {599, 20, 9}, {600, 10, 10}, {1439, 5, 23}};
        for (int[] begin : due) {
            LastMile x = Made.near(begin[0], 1439);
            x.setRoads(9, 20);
            x.setRoads(23, 5);
            Made.stopAt(x, 1, 0, 1439);
            Check.due("terms: a way from the minute " + begin[0], x.stop(0, 0, 0), begin[0] + begin[1]);
        }
        for (int start = 1435; start <= 1436; start++) {
            LastMile x = Made.near(start, 1439);
            x.setRoads(23, 5);
            x.setRoads(0, 30);
            Made.stopAt(x, 0, 0, 1439);
            Made.stopAt(x, 1, 0, 1439);
            Check.due("terms: a way from the minute " + (start + 4), x.stop(0, 1, 0), start == 1435 ? 1444 : 1470);
        }
    }

    /** "Going from a place to another one ... takes (distance * slow + 9) / 10 minutes". */
    private static void waysAreRoundedUp() {
        int[][] due = {{0, 5, 0}, {0, 30, 0}, {1, 5, 1}, {2, 5, 1}, {3, 5, 2}, {1, 9, 1}, {1, 10, 1}, {1, 11, 2},
            {1, 19, 2}, {1, 20, 2}, {1, 21, 3}, {1, 30, 3}, {9, 10, 9}, {10, 11, 11}, {11, 11, 13}, {7, 13, 10},
            {23, 27, 63}, {120, 5, 60}, {80, 30, 240}};
        for (int[] way : due) {
            LastMile x = Made.away(way[0], way[1]);
            x.addVan(10, 0, 1439);
            String what = "terms: the distance " + way[0] + ", slow " + way[1];
            Check.due(what + ", to it and back", Made.stopAt(x, 0, 0, 1439), 2 * way[2]);
            Check.due(what + ", to it", x.stop(0, 0, 0), way[2]);
        }
        LastMile x = Made.away(120, 30);
        x.addVan(10, 0, 1439);
        Check.due("terms: the farthest, as slow as can be", Made.stopAt(x, 0, 0, 1439), 720);
    }

    /** "A table tells for each of 24 hours how slow the roads are, 5 to 30 (10, at first)". */
    private static void howSlow() {
        LastMile x = new LastMile();
        for (int hour = 0; hour < 24; hour++) {
            Check.due("terms: at first, in the hour " + hour, x.setRoads(hour, 10), 10);
        }
        Check.range("terms: an hour of the table", 0, 23, IndexOutOfBoundsException.class, LastMile::new,
            (y, v) -> y.setRoads(v, 10));
        Check.range("terms: how slow", 5, 30, IllegalArgumentException.class, LastMile::new,
            (y, v) -> y.setRoads(0, v));
    }

    /** "It is at a place (30, 30, at first)". */
    private static void depotAtFirst() {
        LastMile x = new LastMile();
        x.addHome(30, 30, 0);
        x.addVan(10, 0, 1439);
        Check.due("terms: no way from the depot at first", Made.stopAt(x, 0, 0, 1439), 0);
        Check.due("terms: the depot at first", x.setDepot(30, 30), 3030);
    }

    /** "There are at most 16, numbered from 0 in the order of their telling"; "hours, as a set of 24 bits". */
    private static void homes() {
        LastMile x = new LastMile();
        Check.due("terms: no homes", x.count(1), 0);
        for (int i = 0; i < 16; i++) {
            Check.due("terms: the number of a home", x.addHome(i, 60 - i, 1 << i), i);
        }
        Check.state("terms: a 17th home", x, () -> x.addHome(0, 0, 0));
        for (int i = 0; i < 16; i++) {
            Check.due("terms: home " + i, 100 * x.home(i, 0) + x.home(i, 1), 100 * i + 60 - i);
            Check.due("terms: hours of home " + i, x.home(i, 2), 1 << i);
        }
        Check.range("terms: a set of 24 bits", 0, ALL_DAY, IllegalArgumentException.class, LastMile::new,
            (y, v) -> y.addHome(0, 0, v));
    }

    /** "Bit h is set, if somebody is at home in the hour h". */
    private static void eachHourOfAHome() {
        for (int hour = 0; hour < 24; hour++) {
            LastMile x = new LastMile();
            x.addHome(30, 30, 1 << hour);
            x.addHome(30, 30, ALL_DAY ^ 1 << hour);
            x.addVan(10, 60 * hour, 1439);
            Made.stopAt(x, 0, 0, 1439);
            Made.stopAt(x, 1, 0, 1439);
            Check.due("terms: only the bit " + hour, x.stop(0, 0, 3), 1);
            Check.due("terms: all but the bit " + hour, x.stop(0, 1, 3), 0);
        }
    }

    /** "It has orders, at most 3, one after the other: each one a locker, or a neighbour". */
    private static void ordersOfAHome() {
        LastMile x = new LastMile();
        x.addHome(0, 0, 0);
        x.addHome(0, 0, 0);
        x.addLocker(0, 0, 1, 1, 1);
        Check.due("terms: no orders", x.home(0, 3), 0);
        for (int i = 1; i <= 3; i++) {
            Check.due("terms: the orders of a home", x.order(0, i == 2, i == 2 ? 0 : 1), i);
        }
        Check.state("terms: a fourth order, a neighbour", x, () -> x.order(0, false, 1));
        Check.state("terms: a fourth order, a locker", x, () -> x.order(0, true, 0));
        Check.due("terms: three orders", x.home(0, 3), 3);
        Check.due("terms: another home has none", x.home(1, 3), 0);
    }

    /** "There are at most 4, numbered likewise; each ... has free boxes of three sizes, 0 to 9 each". */
    private static void lockers() {
        LastMile x = new LastMile();
        Check.due("terms: no lockers", x.count(2), 0);
        for (int i = 0; i < 4; i++) {
            Check.due("terms: the number of a locker", x.addLocker(i, 60, i, 0, 9), i);
        }
        Check.state("terms: a fifth locker", x, () -> x.addLocker(0, 0, 1, 1, 1));
        Check.due("terms: lockers", x.count(2), 4);
        Class<IllegalArgumentException> refused = IllegalArgumentException.class;
        Check.range("terms: boxes of the size 0", 0, 9, refused, LastMile::new, (y, v) -> y.addLocker(0, 0, v, 1, 1));
        Check.range("terms: boxes of the size 1", 0, 9, refused, LastMile::new, (y, v) -> y.addLocker(0, 0, 1, v, 1));
        Check.range("terms: boxes of the size 2", 0, 9, refused, LastMile::new, (y, v) -> y.addLocker(0, 0, 1, 1, v));
    }

    private static LastMile withAHome() {
        LastMile x = new LastMile();
        x.addHome(0, 0, 0);
        return x;
    }

    /** "There are at most 30 ...; a volume, 1 to 40, a home, a window, from a minute till another one, 0 to 1439". */
    private static void parcels() {
        LastMile x = withAHome();
        Check.due("terms: no parcels", x.count(4), 0);
        for (int i = 0; i < 30; i++) {
            Check.due("terms: the number of a parcel", x.addParcel(0, 1 + i, 0, 0, 0), i);
        }
        Check.state("terms: a 31st parcel", x, () -> x.addParcel(0, 1, 0, 0, 0));
        Check.due("terms: parcels", x.count(4), 30);
        Class<IllegalArgumentException> refused = IllegalArgumentException.class;
        Check.range("terms: kind", 0, 2, refused, TermsEdgesTest::withAHome, (y, v) -> y.addParcel(v, 1, 0, 0, 9));
        Check.range("terms: volume", 1, 40, refused, TermsEdgesTest::withAHome, (y, v) -> y.addParcel(0, v, 0, 0, 9));
        Check.range("terms: from", 0, 1439, refused, TermsEdgesTest::withAHome,
            (y, v) -> y.addParcel(0, 1, 0, v, 1439));
        Check.range("terms: till", 700, 1439, refused, TermsEdgesTest::withAHome,
            (y, v) -> y.addParcel(0, 1, 0, 700, v));
        Check.range("terms: the home of a parcel", 0, 0, IndexOutOfBoundsException.class, TermsEdgesTest::withAHome,
            (y, v) -> y.addParcel(0, 1, v, 0, 0));
    }

    /** "And attempts (0, at first). It waits". */
    private static void aParcelAtFirst() {
        LastMile x = withAHome();
        for (int kind = 0; kind <= 2; kind++) {
            int parcel = x.addParcel(kind, 40, 0, 0, 1439);
            Check.due("terms: no attempts at first", x.parcel(parcel, 5), 0);
            Check.due("terms: it waits at first", x.parcel(parcel, 6), 0);
            Check.due("terms: it is on no route at first", x.parcel(parcel, 7), -1);
            Check.due("terms: it lies nowhere at first", x.parcel(parcel, 8), -1);
        }
    }

    /** "There are at most 4 ...; each has room, 10 to 200, and a shift, from a minute till another one". */
    private static void vans() {
        LastMile x = new LastMile();
        Check.due("terms: no vans", x.count(3), 0);
        for (int i = 0; i < 4; i++) {
            Check.due("terms: the number of a van", x.addVan(10 + i, i, i), i);
        }
        Check.state("terms: a fifth van", x, () -> x.addVan(10, 0, 0));
        Check.due("terms: vans", x.count(3), 4);
        Class<IllegalArgumentException> refused = IllegalArgumentException.class;
        Check.range("terms: room", 10, 200, refused, LastMile::new, (y, v) -> y.addVan(v, 0, 0));
        Check.range("terms: start of a shift", 0, 1439, refused, LastMile::new, (y, v) -> y.addVan(10, v, 1439));
        Check.range("terms: end of a shift", 700, 1439, refused, LastMile::new, (y, v) -> y.addVan(10, 700, v));
    }

    /** "A row of at most 12 parcels"; "a route is possible, if it has at most 12 parcels". */
    private static void twelveOnARoute() {
        LastMile x = Made.near(0, 1439);
        Check.due("terms: none on a route", x.van(0, 3), 0);
        for (int i = 0; i < 11; i++) {
            Made.stopAt(x, 0, 0, 1439);
        }
        x.addParcel(0, 1, 0, 0, 1439);
        x.addParcel(0, 1, 0, 0, 1439);
        Check.due("terms: a twelfth would be possible", x.adds(11, 0, 11), 0);
        Check.due("terms: a twelfth", x.put(11, 0, 11), 0);
        Check.due("terms: a thirteenth would not be possible", x.adds(12, 0, 12), 1000000);
        Check.state("terms: a thirteenth", x, () -> x.put(12, 0, 12));
        Check.due("terms: twelve on a route", x.van(0, 3), 12);
    }

    /** "A row of at most 12 parcels that wait". */
    private static void onlyWhatWaits() {
        LastMile x = Made.oneHome(0);
        x.addHome(30, 41, ALL_DAY);
        x.addLocker(30, 54, 1, 0, 0);
        x.order(0, true, 0);
        x.order(0, false, 1);
        int[] homes = {1, 0, 0, 0};
        int[] kinds = {0, 0, 1, 2};
        int[] states = {1, 2, 3, 0};
        for (int i = 0; i < 4; i++) {
            x.put(x.addParcel(kinds[i], 5, homes[i], 0, 1439), 0, i);
        }
        x.drive();
        for (int i = 0; i < 4; i++) {
            int parcel = i;
            Check.due("terms: behind the day, the state of " + i, x.parcel(i, 6), states[i]);
            if (states[i] == 0) {
                Check.allowed("terms: what waits again is put", () -> x.put(parcel, 0, 0));
            } else {
                Check.state("terms: what does not wait, " + i, x, () -> x.put(parcel, 0, 0));
            }
        }
        x.drive();
        x.put(3, 0, 0);
        x.drive();
        Check.due("terms: given up", x.parcel(3, 6), 4);
        Check.state("terms: what was given up", x, () -> x.put(3, 0, 0));
    }

    /** "A parcel is on at most one route". */
    private static void onAtMostOneRoute() {
        LastMile x = Made.near(0, 1439);
        x.addVan(200, 0, 1439);
        Made.stopAt(x, 0, 0, 1439);
        Check.state("terms: once more on its route", x, () -> x.put(0, 0, 1));
        Check.state("terms: on another route too", x, () -> x.put(0, 1, 0));
        x.take(0);
        Check.due("terms: taken, it is put on another one", x.put(0, 1, 0), 0);
        Made.row("terms: the route where it was", x, 0);
        Made.row("terms: the route where it is", x, 1, 0);
    }

    /** "The van begins at the depot, in the first minute of its shift". */
    private static void beginsInTheFirstMinute() {
        for (int start : new int[] {0, 1, 700, 1438, 1439}) {
            LastMile x = Made.near(start, 1439);
            Check.due("terms: back at once", x.van(0, 7), start);
            Made.stopAt(x, 0, 0, 1439);
            Check.due("terms: at the depot, in the first minute", x.stop(0, 0, 0), start);
            Check.due("terms: back behind the stop", x.van(0, 7), start + 4);
        }
    }

    /** "If, ahead of going ..., the minutes of work till now and those of the way ... are more than 240". */
    private static void breakOnTheWayOut() {
        LastMile x = Made.away(120, 20);
        x.addVan(10, 700, 1439);
        Made.stopAt(x, 0, 0, 1439);
        Check.due("terms: a way of 240 minutes", x.stop(0, 0, 0), 700 + 240);
        Check.due("terms: a break ahead of the way back alone", x.van(0, 8), 1);
        x = Made.away(86, 28);
        x.addVan(10, 700, 1439);
        Made.stopAt(x, 0, 0, 1439);
        Check.due("terms: a way of 241 minutes", x.stop(0, 0, 0), 700 + 30 + 241);
        Check.due("terms: a break ahead of the way back too", x.van(0, 8), 2);
    }

    /** The same, ahead of the way to a later stop: waiting and the 4 minutes of a stop are work. */
    private static void breakOnTheWay() {
        for (int from = 226; from <= 227; from++) {
            LastMile x = Made.near(0, 1439);
            Made.stopAt(x, 0, from, 1439);
            Made.stopAt(x, 1, 0, 1439);
            boolean isBreak = from == 227;
            Check.due("terms: work of " + (from + 14), x.stop(0, 1, 0), isBreak ? 271 : 240);
        }
    }

    /** "Ahead of going (also back)"; "there is a break of 30 minutes first, and the way begins behind it". */
    private static void breakOnTheWayBack() {
        for (int from = 226; from <= 227; from++) {
            LastMile x = Made.near(0, 1439);
            Made.stopAt(x, 1, from, 1439);
            boolean isBreak = from == 227;
            Check.due("terms: back, work of " + (from + 14), x.van(0, 7), isBreak ? 271 : 240);
            Check.due("terms: breaks", x.van(0, 8), isBreak ? 1 : 0);
            Check.due("terms: a break is no going", x.van(0, 5), 20);
        }
    }

    /** "Work is reckoned from the beginning of the shift, or the end of the latest break". */
    private static void workFromTheLatestBreak() {
        for (int from = 570; from <= 571; from++) {
            LastMile x = Made.near(0, 1439);
            Made.stopAt(x, 0, 300, 1439);
            Made.stopAt(x, 0, from, 1439);
            Made.stopAt(x, 0, 0, 1439);
            boolean isBreak = from == 571;
            // The first break ends at 334, so that 574 is 240 minutes behind it.
            Check.due("terms: behind a break, work of " + (from + 4 - 334), x.stop(0, 2, 0), isBreak ? 605 : 574);
            Check.due("terms: back at the depot", x.van(0, 7), isBreak ? 609 : 608);
            Check.due("terms: breaks", x.van(0, 8), 2);
        }
        LastMile late = Made.near(1000, 1439);
        Made.stopAt(late, 0, 1236, 1439);
        Check.due("terms: 240 minutes from the beginning of the shift", late.van(0, 8), 0);
        Made.stopAt(late, 0, 1237, 1439);
        Check.due("terms: 241 minutes from the beginning of the shift", late.van(0, 8), 1);
    }

    /** "And those of the way (as it would begin now), added": by the roads of now, not of behind the break. */
    private static void wayAsItWouldBeginNow() {
        for (int slow = 10; slow <= 11; slow++) {
            LastMile x = Made.near(0, 1439);
            x.setRoads(3, slow);
            x.setRoads(4, 30);
            Made.stopAt(x, 1, 226, 1439);
            // By the roads of the hour 3 the way back takes 10, or 11 minutes.
            Check.due("terms: 230 and the way by the roads of now", x.van(0, 7), slow == 10 ? 240 : 230 + 30 + 30);
        }
        for (int from = 206; from <= 207; from++) {
            LastMile x = Made.near(0, 1439);
            x.setRoads(3, 30);
            x.setRoads(4, 5);
            Made.stopAt(x, 1, from, 1439);
            // By the roads of now it takes 30 minutes, behind a break 5.
            Check.due("terms: slower roads now", x.van(0, 7), from == 206 ? 240 : 211 + 30 + 5);
        }
    }

    /** "There is a break of 30 minutes first, and the way begins behind it": by the roads of then. */
    private static void wayBeginsBehindTheBreak() {
        for (int from = 205; from <= 206; from++) {
            LastMile x = Made.near(0, 1439);
            x.addHome(30, 50, ALL_DAY);
            x.setRoads(3, 30);
            x.setRoads(4, 20);
            Made.stopAt(x, 2, from, 1439);
            // The 4 minutes of the stop, and the break.
            boolean isInHour4 = from == 206;
            Check.due("terms: the way begins at " + (from + 34), x.van(0, 7), isInHour4 ? 240 + 40 : 239 + 60);
        }
    }

    /** A way that takes more than 240 minutes itself has one break ahead of it. */
    private static void oneBreakAheadOfAWay() {
        LastMile x = Made.away(120, 30);
        x.addVan(10, 0, 1439);
        Made.stopAt(x, 0, 0, 1439);
        Check.due("terms: the stop behind one break", x.stop(0, 0, 0), 30 + 360);
        Check.due("terms: back behind another one", x.van(0, 7), 390 + 4 + 30 + 360);
        Check.due("terms: two breaks", x.van(0, 8), 2);
    }

    /** "Who comes ahead of the window waits till it begins ...; otherwise the minute of the stop is that of coming". */
    private static void waitsTillTheWindow() {
        int[][] due = {{489, 490}, {490, 490}, {491, 491}, {0, 490}, {1439, 1439}};
        for (int[] from : due) {
            LastMile x = Made.near(480, 1439);
            Made.stopAt(x, 1, from[0], 1439);
            Check.due("terms: comes at 490, the window begins at " + from[0], x.stop(0, 0, 0), from[1]);
            Check.due("terms: it is not late", x.stop(0, 0, 1), 0);
        }
    }

    /** "It is late by as many minutes as it is behind the end of the window". */
    private static void lateBehindTheWindow() {
        int[][] due = {{488, 2}, {489, 1}, {490, 0}, {491, 0}, {0, 490}, {1439, 0}};
        for (int[] till : due) {
            LastMile x = Made.near(480, 1439);
            Made.stopAt(x, 1, 0, till[0]);
            Check.due("terms: a stop at 490, the window ends at " + till[0], x.stop(0, 0, 1), till[1]);
            Check.due("terms: the minute is that of coming", x.stop(0, 0, 0), 490);
        }
        LastMile x = Made.near(480, 1439);
        Made.stopAt(x, 1, 700, 700);
        Check.due("terms: who waited for a window of one minute is not late", x.stop(0, 0, 1), 0);
    }

    /** "A stop takes 4 minutes". */
    private static void fourMinutesOfAStop() {
        LastMile x = Made.near(480, 1439);
        for (int i = 0; i < 12; i++) {
            Made.stopAt(x, 0, 0, 1439);
            Check.due("terms: stop " + i, x.stop(0, i, 0), 480 + 4 * i);
        }
        Check.due("terms: back behind twelve", x.van(0, 7), 480 + 48);
    }

    /** "3 for each minute that a stop is late". */
    private static void costOfBeingLate() {
        int[][] due = {{491, 20}, {490, 20}, {489, 23}, {488, 26}};
        for (int[] till : due) {
            LastMile x = Made.near(480, 1439);
            Check.due("terms: cost, the window ends at " + till[0], Made.stopAt(x, 1, 0, till[0]), till[1]);
        }
        LastMile x = Made.near(480, 1439);
        Made.stopAt(x, 1, 0, 489);
        Check.due("terms: another stop that is late", Made.stopAt(x, 1, 0, 493), 3);
        Check.due("terms: all minutes that stops are late", x.van(0, 6), 2);
    }

    /** "2 for each minute by which the van comes back behind the end of its shift". */
    private static void costBehindTheShift() {
        int[][] due = {{505, 20}, {504, 20}, {503, 22}, {502, 24}, {480, 68}};
        for (int[] end : due) {
            LastMile x = Made.near(480, end[0]);
            Check.due("terms: cost, back at 504, the shift ends at " + end[0], Made.stopAt(x, 1, 0, 1439), end[1]);
        }
        Check.due("terms: a route without parcels costs nothing", Made.near(1439, 1439).van(0, 4), 0);
    }

    /** "At the depot all volumes of parcels of the kinds 0 and 1"; "the load is at no time more than the room". */
    private static void loadAtTheDepot() {
        for (int room = 39; room <= 40; room++) {
            LastMile x = new LastMile();
            x.addHome(30, 30, 0);
            x.addVan(room, 480, 1000);
            x.put(x.addParcel(0, 15, 0, 0, 1439), 0, 0);
            x.addParcel(1, 25, 0, 0, 1439);
            lastOne("at the depot", x, 1, 1, room);
        }
    }

    /** "At each stop the volume becomes less, with the kind 2 more": most on the way, between other stops. */
    private static void loadOnTheWay() {
        for (int room = 39; room <= 40; room++) {
            LastMile x = new LastMile();
            x.addHome(30, 30, 0);
            x.addVan(room, 480, 1000);
            x.put(x.addParcel(0, 10, 0, 0, 1439), 0, 0);
            x.put(x.addParcel(1, 8, 0, 0, 1439), 0, 1);
            x.addParcel(2, 32, 0, 0, 1439);
            lastOne("on the way", x, 2, 1, room);
        }
    }

    /** The same, most behind the last stop. */
    private static void loadAtTheEnd() {
        for (int room = 39; room <= 40; room++) {
            LastMile x = new LastMile();
            x.addHome(30, 30, 0);
            x.addVan(room, 480, 1000);
            x.put(x.addParcel(0, 10, 0, 0, 1439), 0, 0);
            x.put(x.addParcel(2, 5, 0, 0, 1439), 0, 1);
            x.addParcel(2, 35, 0, 0, 1439);
            lastOne("at the end", x, 2, 2, room);
        }
    }

    /** With this parcel there the load is 40 for a time: as much as the room, or 1 more. */
    private static void lastOne(String what, LastMile x, int parcel, int place, int room) {
        if (room == 40) {
            Check.due("terms: possible, " + what, x.adds(parcel, 0, place), 0);
            Check.due("terms: as much as the room, " + what, x.put(parcel, 0, place), 0);
            Check.due("terms: the greatest load, " + what, x.van(0, 9), 40);
        } else {
            Check.due("terms: not possible, " + what, x.adds(parcel, 0, place), 1000000);
            Check.state("terms: 1 more than the room, " + what, x, () -> x.put(parcel, 0, place));
        }
    }

    /** "A method that throws an exception changes nothing": what is refused leaves all that is told later as it was. */
    private static void throwingChangesNothing() {
        LastMile x = Made.full();
        LastMile same = Made.full();
        x.plan();
        same.plan();
        Check.index("terms: setRoads", x, () -> x.setRoads(24, 30));
        Check.argument("terms: setRoads", x, () -> x.setRoads(8, 31));
        Check.argument("terms: setDepot", x, () -> x.setDepot(60, 61));
        Check.state("terms: addHome", x, () -> x.addHome(0, 0, 0));
        Check.state("terms: order", x, () -> x.order(0, true, 0));
        Check.state("terms: addLocker", x, () -> x.addLocker(0, 0, 1, 1, 1));
        Check.state("terms: addVan", x, () -> x.addVan(10, 0, 0));
        Check.state("terms: addParcel", x, () -> x.addParcel(0, 1, 0, 0, 0));
        Check.state("terms: put", x, () -> x.put(0, 3, 0));
        Check.index("terms: take", x, () -> x.take(30));
        Check.index("terms: improve", x, () -> x.improve(4));
        Check.index("terms: foresee", x, () -> x.foresee(3));
        for (int day = 0; day < 4; day++) {
            Check.due("terms: what drive() tells, as without them", x.drive(), same.drive());
            Check.due("terms: all that is told, as without them", x.digest(), same.digest());
            Check.due("terms: what plan() tells, as without them", x.plan(), same.plan());
        }
    }
}
