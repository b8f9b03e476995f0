/** Each sentence of the promises 1 to 11 that names a boundary case; each test quotes its own. */
public final class CallEdgesTest {
    private static final int ALL_DAY = Made.ALL_DAY;
    private static final Class<IndexOutOfBoundsException> INDEX = IndexOutOfBoundsException.class;
    private static final Class<IllegalArgumentException> ARGUMENT = IllegalArgumentException.class;

    public static void main(String[] args) {
        without();
        onTheDay0();
        at512Calls();
        roadsHour();
        roadsSlow();
        roadsBoth();
        howSlowTheyWere();
        depotPlace();
        depotBefore();
        homePlace();
        homeHours();
        sixteenHomes();
        orderNoSuchHome();
        orderNoSuchLocker();
        orderNoSuchNeighbour();
        orderItsOwnNeighbour();
        orderThree();
        orderHowMany();
        lockerArguments();
        fourLockers();
        vanArguments();
        fourVans();
        parcelArguments();
        parcelNoSuchHome();
        thirtyParcels();
        tellHome();
        ordersTold();
        parcelsThatWaitTold();
        parcelsLeftTold();
        tellLocker();
        freeBoxesTold();
        parcelsThatLieTold();
        tellParcel();
        attemptsTold();
        vanAndWhereTold();
        Check.end();
    }

    /** "Creates a planner without homes, lockers, vans and parcels". */
    private static void without() {
        LastMile x = new LastMile();
        Check.index("promise 1: order", x, () -> x.order(0, false, 0));
        Check.index("promise 1: order, a locker", x, () -> x.order(0, true, 0));
        Check.index("promise 1: addParcel", x, () -> x.addParcel(0, 1, 0, 0, 0));
        Check.index("promise 1: home", x, () -> x.home(0, 0));
        Check.index("promise 1: locker", x, () -> x.locker(0, 0));
        Check.index("promise 1: parcel", x, () -> x.parcel(0, 0));
        Check.index("promise 1: put", x, () -> x.put(0, 0, 0));
        Check.index("promise 1: take", x, () -> x.take(0));
        Check.index("promise 1: route", x, () -> x.route(0, 0));
        Check.index("promise 1: van", x, () -> x.van(0, 0));
        Check.index("promise 1: stop", x, () -> x.stop(0, 0, 0));
        Check.index("promise 1: adds", x, () -> x.adds(0, 0, 0));
        Check.index("promise 1: cheapest", x, () -> x.cheapest(0));
        Check.index("promise 1: improve", x, () -> x.improve(0));
        Check.index("promise 1: hour", x, () -> x.hour(0));
        Check.due("promise 1: plan, move and drive", x.plan() + x.move() + x.drive(), 0);
    }

    /** "On the day 0". */
    private static void onTheDay0() {
        LastMile x = new LastMile();
        for (int what = 0; what < 12; what++) {
            Check.due("promise 1: count(" + what + ")", x.count(what), 0);
        }
        x.drive();
        Check.due("promise 1: behind a day", x.count(0), 1);
        Check.due("promise 1: another one begins on the day 0", new LastMile().count(0), 0);
    }

    /** "An object is used for at most 512 calls": the last of them is answered as any other. */
    private static void at512Calls() {
        LastMile x = new LastMile();
        for (int i = 0; i < 511; i++) {
            x.drive();
        }
        Check.due("promise 1: the 512th call", x.count(0), 511);
        LastMile y = Made.full();
        LastMile same = Made.full();
        for (int i = 0; i < 80; i++) {
            y.plan();
            y.foresee(i % 3);
            y.move();
            y.improve(i % 4);
            y.drive();
            same.plan();
            same.move();
            same.improve(i % 4);
            same.drive();
        }
        Check.due("promise 1: the 503rd call, and one without those that looked ahead", y.digest(), same.digest());
    }

    /** "Throws IndexOutOfBoundsException if hour is not 0 to 23". */
    private static void roadsHour() {
        Check.range("promise 2: hour", 0, 23, INDEX, LastMile::new, (x, v) -> x.setRoads(v, 10));
    }

    /** "Throws IllegalArgumentException if slow is not 5 to 30". */
    private static void roadsSlow() {
        Check.range("promise 2: slow in the hour 0", 5, 30, ARGUMENT, LastMile::new, (x, v) -> x.setRoads(0, v));
        Check.range("promise 2: slow in the hour 23", 5, 30, ARGUMENT, LastMile::new, (x, v) -> x.setRoads(23, v));
    }

    /** Both: the exception that is named first. */
    private static void roadsBoth() {
        LastMile x = new LastMile();
        for (int slow : new int[] {4, 31}) {
            Check.index("promise 2: hour -1, slow " + slow, x, () -> x.setRoads(-1, slow));
            Check.index("promise 2: hour 24, slow " + slow, x, () -> x.setRoads(24, slow));
        }
    }

    /** "Returns how slow they were". */
    private static void howSlowTheyWere() {
        LastMile x = new LastMile();
        for (int hour : new int[] {0, 1, 22, 23}) {
            Check.due("promise 2: at first", x.setRoads(hour, 5), 10);
            Check.due("promise 2: the least", x.setRoads(hour, 30), 5);
            Check.due("promise 2: the most", x.setRoads(hour, 30), 30);
            Check.due("promise 2: the same again", x.setRoads(hour, 10 + hour % 5), 30);
        }
        Check.argument("promise 2: refused", x, () -> x.setRoads(23, 31));
        Check.due("promise 2: what was refused is not told", x.setRoads(23, 10), 13);
    }

    /** "Throws IllegalArgumentException if x or y is not 0 to 60". */
    private static void depotPlace() {
        Check.range("promise 3: x", 0, 60, ARGUMENT, LastMile::new, (x, v) -> x.setDepot(v, 0));
        Check.range("promise 3: y", 0, 60, ARGUMENT, LastMile::new, (x, v) -> x.setDepot(60, v));
        LastMile x = new LastMile();
        Check.argument("promise 3: both", x, () -> x.setDepot(61, -1));
    }

    /** "Returns 100 * x + y of the place before". */
    private static void depotBefore() {
        LastMile x = new LastMile();
        int[][] places = {{0, 0}, {60, 60}, {0, 60}, {60, 0}, {0, 1}, {1, 0}, {1, 0}};
        int before = 3030;
        for (int[] place : places) {
            Check.due("promise 3: the place before", x.setDepot(place[0], place[1]), before);
            before = 100 * place[0] + place[1];
        }
        Check.argument("promise 3: refused", x, () -> x.setDepot(0, 61));
        Check.due("promise 3: what was refused is not told", x.setDepot(30, 30), 100);
    }

    /** "Throws IllegalArgumentException if x or y is not 0 to 60". */
    private static void homePlace() {
        Check.range("promise 4: x", 0, 60, ARGUMENT, LastMile::new, (x, v) -> x.addHome(v, 60, ALL_DAY));
        Check.range("promise 4: y", 0, 60, ARGUMENT, LastMile::new, (x, v) -> x.addHome(0, v, 0));
    }

    /** "Or hours is not a set of 24 bits". */
    private static void homeHours() {
        Check.range("promise 4: hours", 0, ALL_DAY, ARGUMENT, LastMile::new, (x, v) -> x.addHome(0, 0, v));
        for (int bit = 24; bit < 32; bit++) {
            LastMile x = new LastMile();
            int hours = 1 << bit | 1;
            Check.argument("promise 4: the bit " + bit, x, () -> x.addHome(0, 0, hours));
        }
    }

    /** "Throws IllegalStateException if there are 16". */
    private static void sixteenHomes() {
        LastMile x = new LastMile();
        for (int i = 0; i < 16; i++) {
            Check.due("promise 4: the number", x.addHome(0, 0, 0), i);
        }
        Check.state("promise 4: there are 16", x, () -> x.addHome(0, 0, 0));
        Check.argument("promise 4: there are 16, and x is 61", x, () -> x.addHome(61, 0, 0));
        Check.argument("promise 4: there are 16, and y is -1", x, () -> x.addHome(0, -1, 0));
        Check.argument("promise 4: there are 16, and hours are no set", x, () -> x.addHome(0, 0, 1 << 24));
        Check.due("promise 4: still 16", x.count(1), 16);
    }

    private static LastMile twoHomesAndALocker() {
        LastMile x = new LastMile();
        x.addHome(0, 0, 0);
        x.addHome(0, 0, 0);
        x.addLocker(0, 0, 1, 1, 1);
        return x;
    }

    /** "Throws IndexOutOfBoundsException if there is no such home". */
    private static void orderNoSuchHome() {
        Check.range("promise 5: home, a locker", 0, 1, INDEX, CallEdgesTest::twoHomesAndALocker,
            (x, v) -> x.order(v, true, 0));
        LastMile x = twoHomesAndALocker();
        for (int home : new int[] {-1, 2}) {
            Check.index("promise 5: home " + home + ", a neighbour", x, () -> x.order(home, false, 0));
            Check.index("promise 5: home " + home + ", its own neighbour", x, () -> x.order(home, false, home));
            Check.index("promise 5: home " + home + ", no such locker", x, () -> x.order(home, true, 1));
        }
    }

    /** "Or no such locker". */
    private static void orderNoSuchLocker() {
        Check.range("promise 5: locker", 0, 0, INDEX, CallEdgesTest::twoHomesAndALocker,
            (x, v) -> x.order(1, true, v));
        LastMile full = Made.full();
        Check.index("promise 5: the locker 4, and it has 3 orders", full, () -> full.order(0, true, 4));
        LastMile x = new LastMile();
        x.addHome(0, 0, 0);
        Check.index("promise 5: there are no lockers", x, () -> x.order(0, true, 0));
    }

    /** "Or neighbour". */
    private static void orderNoSuchNeighbour() {
        LastMile x = twoHomesAndALocker();
        Check.due("promise 5: the last one", x.order(0, false, 1), 1);
        Check.due("promise 5: the first one", x.order(1, false, 0), 1);
        for (int which : new int[] {-1, 2, Integer.MIN_VALUE, Integer.MAX_VALUE}) {
            Check.index("promise 5: neighbour " + which, x, () -> x.order(0, false, which));
        }
        LastMile full = Made.full();
        Check.due("promise 5: the last of 16", full.home(15, 3), 3);
        Check.index("promise 5: the neighbour 16, and it has 3 orders", full, () -> full.order(0, false, 16));
    }

    /** "Throws IllegalArgumentException if it is its own neighbour". */
    private static void orderItsOwnNeighbour() {
        LastMile x = twoHomesAndALocker();
        Check.argument("promise 5: the home 0", x, () -> x.order(0, false, 0));
        Check.argument("promise 5: the home 1", x, () -> x.order(1, false, 1));
        Check.due("promise 5: a locker of its number", x.order(0, true, 0), 1);
        x.order(0, true, 0);
        x.order(0, true, 0);
        Check.argument("promise 5: its own neighbour, and it has 3", x, () -> x.order(0, false, 0));
    }

    /** "Throws IllegalStateException if it has 3". */
    private static void orderThree() {
        LastMile x = twoHomesAndALocker();
        for (int i = 0; i < 3; i++) {
            x.order(0, false, 1);
        }
        Check.state("promise 5: a fourth, a neighbour", x, () -> x.order(0, false, 1));
        Check.state("promise 5: a fourth, a locker", x, () -> x.order(0, true, 0));
        Check.due("promise 5: it still has 3", x.home(0, 3), 3);
        Check.due("promise 5: another one has none yet", x.order(1, true, 0), 1);
    }

    /** "Returns how many orders it has": the same one may be given again. */
    private static void orderHowMany() {
        LastMile x = twoHomesAndALocker();
        for (int i = 1; i <= 3; i++) {
            Check.due("promise 5: orders of the home 1", x.order(1, true, 0), i);
            Check.due("promise 5: orders of the home 0", x.order(0, false, 1), i);
        }
    }

    /** "If x or y is not 0 to 60, or small, middle or large is not 0 to 9". */
    private static void lockerArguments() {
        Check.range("promise 6: x", 0, 60, ARGUMENT, LastMile::new, (x, v) -> x.addLocker(v, 0, 0, 0, 0));
        Check.range("promise 6: y", 0, 60, ARGUMENT, LastMile::new, (x, v) -> x.addLocker(0, v, 0, 0, 0));
        Check.range("promise 6: small", 0, 9, ARGUMENT, LastMile::new, (x, v) -> x.addLocker(60, 60, v, 9, 9));
        Check.range("promise 6: middle", 0, 9, ARGUMENT, LastMile::new, (x, v) -> x.addLocker(60, 60, 9, v, 9));
        Check.range("promise 6: large", 0, 9, ARGUMENT, LastMile::new, (x, v) -> x.addLocker(60, 60, 9, 9, v));
    }

    /** "Throws IllegalStateException if there are 4". */
    private static void fourLockers() {
        LastMile x = new LastMile();
        for (int i = 0; i < 4; i++) {
            Check.due("promise 6: the number", x.addLocker(0, 0, 0, 0, 0), i);
        }
        Check.state("promise 6: there are 4", x, () -> x.addLocker(0, 0, 0, 0, 0));
        Check.argument("promise 6: there are 4, and x is -1", x, () -> x.addLocker(-1, 0, 0, 0, 0));
        Check.argument("promise 6: there are 4, and large is 10", x, () -> x.addLocker(0, 0, 0, 0, 10));
        Check.due("promise 6: still 4", x.count(2), 4);
    }

    /** "If room is not 10 to 200, start is not 0 to 1439, or end is not start to 1439". */
    private static void vanArguments() {
        Check.range("promise 7: room", 10, 200, ARGUMENT, LastMile::new, (x, v) -> x.addVan(v, 0, 1439));
        Check.range("promise 7: start", 0, 1439, ARGUMENT, LastMile::new, (x, v) -> x.addVan(10, v, 1439));
        Check.range("promise 7: end from 0", 0, 1439, ARGUMENT, LastMile::new, (x, v) -> x.addVan(10, 0, v));
        Check.range("promise 7: end from 600", 600, 1439, ARGUMENT, LastMile::new, (x, v) -> x.addVan(10, 600, v));
        Check.range("promise 7: end from 1439", 1439, 1439, ARGUMENT, LastMile::new, (x, v) -> x.addVan(10, 1439, v));
        LastMile x = new LastMile();
        Check.argument("promise 7: start and end -1", x, () -> x.addVan(10, -1, -1));
        Check.argument("promise 7: start and end 1440", x, () -> x.addVan(10, 1440, 1440));
    }

    /** "Throws IllegalStateException if there are 4". */
    private static void fourVans() {
        LastMile x = new LastMile();
        for (int i = 0; i < 4; i++) {
            Check.due("promise 7: the number", x.addVan(10, 0, 0), i);
        }
        Check.state("promise 7: there are 4", x, () -> x.addVan(10, 0, 0));
        Check.argument("promise 7: there are 4, and room is 9", x, () -> x.addVan(9, 0, 0));
        Check.argument("promise 7: there are 4, and end is ahead of start", x, () -> x.addVan(10, 1, 0));
        Check.due("promise 7: still 4", x.count(3), 4);
    }

    private static LastMile twoHomes() {
        LastMile x = new LastMile();
        x.addHome(0, 0, 0);
        x.addHome(0, 0, 0);
        return x;
    }

    /** "If kind is not 0 to 2, volume is not 1 to 40, from is not 0 to 1439, or till is not from to 1439". */
    private static void parcelArguments() {
        Check.range("promise 8: kind", 0, 2, ARGUMENT, CallEdgesTest::twoHomes, (x, v) -> x.addParcel(v, 1, 0, 0, 0));
        Check.range("promise 8: volume", 1, 40, ARGUMENT, CallEdgesTest::twoHomes,
            (x, v) -> x.addParcel(2, v, 0, 0, 0));
        Check.range("promise 8: from", 0, 1439, ARGUMENT, CallEdgesTest::twoHomes,
            (x, v) -> x.addParcel(0, 1, 0, v, 1439));
        Check.range("promise 8: till from 0", 0, 1439, ARGUMENT, CallEdgesTest::twoHomes,
            (x, v) -> x.addParcel(0, 1, 0, 0, v));
        Check.range("promise 8: till from 600", 600, 1439, ARGUMENT, CallEdgesTest::twoHomes,
            (x, v) -> x.addParcel(0, 1, 0, 600, v));
        LastMile x = twoHomes();
        Check.argument("promise 8: from and till -1", x, () -> x.addParcel(0, 1, 0, -1, -1));
        Check.argument("promise 8: from and till 1440", x, () -> x.addParcel(0, 1, 0, 1440, 1440));
    }

    /** "Throws IndexOutOfBoundsException if there is no such home", behind what is named ahead of it. */
    private static void parcelNoSuchHome() {
        Check.range("promise 8: home", 0, 1, INDEX, CallEdgesTest::twoHomes, (x, v) -> x.addParcel(0, 1, v, 0, 0));
        LastMile x = twoHomes();
        for (int home : new int[] {-1, 2}) {
            Check.argument("promise 8: kind 3, home " + home, x, () -> x.addParcel(3, 1, home, 0, 0));
            Check.argument("promise 8: volume 0, home " + home, x, () -> x.addParcel(0, 0, home, 0, 0));
            Check.argument("promise 8: from -1, home " + home, x, () -> x.addParcel(0, 1, home, -1, 0));
            Check.argument("promise 8: till 1440, home " + home, x, () -> x.addParcel(0, 1, home, 0, 1440));
        }
    }

    /** "Throws IllegalStateException if there are 30". */
    private static void thirtyParcels() {
        LastMile x = twoHomes();
        for (int i = 0; i < 30; i++) {
            Check.due("promise 8: the number", x.addParcel(i % 3, 1, 1, 0, 0), i);
        }
        Check.state("promise 8: there are 30", x, () -> x.addParcel(0, 1, 0, 0, 0));
        Check.argument("promise 8: there are 30, and kind is -1", x, () -> x.addParcel(-1, 1, 0, 0, 0));
        Check.argument("promise 8: there are 30, and no such home and volume", x, () -> x.addParcel(0, 41, 2, 0, 0));
        Check.index("promise 8: there are 30, and no such home", x, () -> x.addParcel(0, 1, 2, 0, 0));
        Check.due("promise 8: still 30", x.count(4), 30);
    }

    /** "If there is no such home, or what is not 0 to 5". */
    private static void tellHome() {
        Check.range("promise 9: home of 2", 0, 1, INDEX, CallEdgesTest::twoHomes, (x, v) -> x.home(v, 0));
        Check.range("promise 9: home of 16", 0, 15, INDEX, Made::full, (x, v) -> x.home(v, 5));
        Check.range("promise 9: what", 0, 5, INDEX, CallEdgesTest::twoHomes, (x, v) -> x.home(1, v));
    }

    /** "3 its orders": none yet, and as many as there may be. */
    private static void ordersTold() {
        LastMile x = twoHomes();
        for (int i = 0; i <= 3; i++) {
            Check.due("promise 9: orders", x.home(0, 3), i);
            Check.due("promise 9: orders of the other one", x.home(1, 3), 0);
            if (i < 3) {
                x.order(0, false, 1);
            }
        }
    }

    /** "4 parcels for it that wait": none, and all; on a route or not. */
    private static void parcelsThatWaitTold() {
        LastMile x = Made.oneHome(1 << 8);
        x.addHome(0, 0, 0);
        Check.due("promise 9: none waits", x.home(0, 4), 0);
        for (int i = 0; i < 30; i++) {
            x.addParcel(i % 3, 1, 0, 0, 1439);
        }
        Check.due("promise 9: all wait", x.home(0, 4), 30);
        Check.due("promise 9: none waits for another one", x.home(1, 4), 0);
        x.plan();
        Check.due("promise 9: twelve are on a route", x.count(6), 18);
        Check.due("promise 9: also those wait", x.home(0, 4), 30);
        x.drive();
        Check.due("promise 9: twelve were handed over, or fetched", x.home(0, 4), 18);
    }

    /** "5 parcels that were left there as with a neighbour": none, and as many as there may be. */
    private static void parcelsLeftTold() {
        LastMile x = Made.oneHome(0);
        x.addHome(30, 40, ALL_DAY);
        x.order(0, false, 1);
        for (int i = 0; i < 30; i++) {
            x.addParcel(i % 2, 1, 0, 0, 1439);
        }
        for (int left = 0; left <= 36; left += 12) {
            Check.due("promise 9: left there", x.home(1, 5), Math.min(left, 30));
            Check.due("promise 9: not those that are for it", x.home(0, 5), 0);
            x.plan();
            x.drive();
        }
    }

    /** "If there is no such locker, or what is not 0 to 5". */
    private static void tellLocker() {
        Check.range("promise 10: locker of 1", 0, 0, INDEX, CallEdgesTest::twoHomesAndALocker,
            (x, v) -> x.locker(v, 0));
        Check.range("promise 10: locker of 4", 0, 3, INDEX, Made::full, (x, v) -> x.locker(v, 5));
        Check.range("promise 10: what", 0, 5, INDEX, CallEdgesTest::twoHomesAndALocker, (x, v) -> x.locker(0, v));
    }

    /** "2 to 4 free boxes of the size what - 2": none, and as many as there may be. */
    private static void freeBoxesTold() {
        LastMile x = new LastMile();
        x.addLocker(0, 0, 0, 9, 0);
        x.addLocker(0, 0, 9, 0, 9);
        for (int size = 0; size < 3; size++) {
            Check.due("promise 10: free boxes of the size " + size, x.locker(0, 2 + size), size == 1 ? 9 : 0);
            Check.due("promise 10: free boxes of the size " + size, x.locker(1, 2 + size), size == 1 ? 0 : 9);
        }
    }

    /** "5 parcels that lie there": none, and as many as there are boxes. */
    private static void parcelsThatLieTold() {
        LastMile x = Made.oneHome(0);
        x.addLocker(30, 54, 9, 9, 9);
        x.order(0, true, 0);
        for (int i = 0; i < 30; i++) {
            x.addParcel(0, 1, 0, 0, 1439);
        }
        Check.due("promise 10: none lies there", x.locker(0, 5), 0);
        x.plan();
        x.drive();
        Check.due("promise 10: twelve lie there", x.locker(0, 5), 12);
        x.plan();
        x.drive();
        Check.due("promise 10: twenty-four lie there", x.locker(0, 5), 24);
        Check.due("promise 10: three boxes are free", x.locker(0, 2) + x.locker(0, 3) + x.locker(0, 4), 3);
        // The first twelve have lain there for three ends of days; the other three boxes were taken on the way.
        x.plan();
        x.drive();
        Check.due("promise 10: those of the later days lie there", x.locker(0, 5), 15);
    }

    /** "If there is no such parcel, or what is not 0 to 8". */
    private static void tellParcel() {
        Check.range("promise 11: parcel of 30", 0, 29, INDEX, Made::full, (x, v) -> x.parcel(v, 0));
        Check.range("promise 11: what", 0, 8, INDEX, Made::full, (x, v) -> x.parcel(29, v));
        LastMile x = twoHomes();
        Check.index("promise 11: there are none", x, () -> x.parcel(0, 0));
        x.addParcel(0, 1, 0, 0, 0);
        Check.due("promise 11: the first one", x.parcel(0, 1), 1);
        Check.index("promise 11: there is one", x, () -> x.parcel(1, 0));
    }

    /** "5 its attempts": none, and as many as there may be. */
    private static void attemptsTold() {
        LastMile x = Made.oneHome(0);
        x.addParcel(1, 1, 0, 0, 1439);
        for (int attempts = 0; attempts <= 3; attempts++) {
            Check.due("promise 11: attempts", x.parcel(0, 5), attempts);
            Check.due("promise 11: it waits, or was given up", x.parcel(0, 6), attempts < 3 ? 0 : 4);
            x.plan();
            x.drive();
        }
        Check.due("promise 11: no more of them", x.parcel(0, 5), 3);
    }

    /** "7 the van on whose route it is, -1 for none, 8 the locker or the neighbour where it is ..., otherwise -1". */
    private static void vanAndWhereTold() {
        LastMile x = Made.full();
        for (int van = 0; van < 4; van++) {
            Check.due("promise 11: on none", x.parcel(van, 7), -1);
            x.put(van, van, 0);
            Check.due("promise 11: on the route of van " + van, x.parcel(van, 7), van);
            Check.due("promise 11: it lies nowhere", x.parcel(van, 8), -1);
        }
        for (int first = 0; first < 2; first++) {
            LastMile y = Made.oneHome(first == 0 ? 0 : ALL_DAY);
            y.addHome(30, 40, first == 0 ? ALL_DAY : 0);
            y.addLocker(30, 54, 1, 1, 1);
            y.addLocker(30, 54, 1, 1, 1);
            y.order(first, true, first);
            y.order(first, false, 1 - first);
            y.put(y.addParcel(0, 1, first, 0, 1439), 0, 0);
            y.put(y.addParcel(1, 1, first, 0, 1439), 0, 1);
            y.drive();
            Check.due("promise 11: the locker where it is", y.parcel(0, 8), first);
            Check.due("promise 11: the neighbour where it is", y.parcel(1, 8), 1 - first);
            Check.due("promise 11: on none behind the day", y.parcel(0, 7) + y.parcel(1, 7), -2);
        }
    }
}
