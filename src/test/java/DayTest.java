/** Promises 23 to 27: the day. */
public final class DayTest {
    private static final int ALL_DAY = 0xFFFFFF;
    private static final int[] WRONG = {-1, 99, Integer.MIN_VALUE, Integer.MAX_VALUE};

    private static final int WAITS = 0;
    private static final int DONE = 1;
    private static final int IN_LOCKER = 2;
    private static final int WITH_NEIGHBOUR = 3;
    private static final int GIVEN_UP = 4;

    public static void main(String[] args) {
        somebodyAtHome();
        waitingAndMidnight();
        attempts();
        lockerByKind();
        lockerDistance();
        leastBox();
        boxes();
        fetchedFromLocker();
        nightsInLocker();
        neighbour();
        firstHomeAsNeighbour();
        neighbourByTheHour();
        ordersOneAfterTheOther();
        ordersInTheirOrder();
        restIsLeftOut();
        breaksOnTheDrive();
        vansByNumbers();
        behindAllVans();
        foresee();
        foreseeGivenUp();
        hour();
        mean();
        digest();
        Check.end();
    }

    /** Home 0 at (30, 40), with these hours; a van from 480 till 1000. */
    private static LastMile oneHome(int hours) {
        LastMile x = new LastMile();
        x.addHome(30, 40, hours);
        x.addVan(100, 480, 1000);
        return x;
    }

    /** Puts all that waits into the route of van 0, by numbers, and drives. */
    private static int driven(LastMile x) {
        for (int i = 0; i < x.count(4); i++) {
            if (x.parcel(i, 6) == WAITS) {
                x.put(i, 0, x.van(0, 3));
            }
        }
        int latest = x.foresee(2);
        int foreseen = x.foresee(0);
        int moreGivenUp = x.foresee(1);
        int givenUp = x.count(10);
        int done = x.drive();
        Check.due("promise 24: what drive() tells", foreseen, done);
        Check.due("promise 24: more given up", moreGivenUp, x.count(10) - givenUp);
        return done * 10000 + latest;
    }

    private static void state(String what, LastMile x, int parcel, int state, int where) {
        Check.due(what + ": parcel(" + parcel + ", 6)", x.parcel(parcel, 6), state);
        Check.due(what + ": parcel(" + parcel + ", 8)", x.parcel(parcel, 8), where);
    }

    private static void somebodyAtHome() {
        for (int kind = 0; kind <= 2; kind++) {
            LastMile x = oneHome(1 << 8);
            x.addParcel(kind, 10, 0, 0, 1439);
            Check.due("promise 23: kind " + kind, driven(x), 10504);
            state("promise 23: kind " + kind, x, 0, DONE, -1);
            Check.due("promise 23: no attempt", x.parcel(0, 5), 0);
            Check.due("promise 23: on no route", x.parcel(0, 7), -1);
            LastMile y = oneHome(ALL_DAY ^ 1 << 8);
            y.addParcel(kind, 10, 0, 0, 1439);
            Check.due("promise 23: kind " + kind + ", nobody there", driven(y), 504);
            state("promise 23: kind " + kind + ", nobody there", y, 0, WAITS, -1);
            Check.due("promise 23: an attempt", y.parcel(0, 5), 1);
        }
    }

    private static void waitingAndMidnight() {
        LastMile x = oneHome(1 << 9);
        x.addParcel(0, 10, 0, 540, 540);
        Check.due("promise 23: it waits for the window", driven(x), 10554);
        LastMile y = oneHome(1 << 9);
        y.addParcel(0, 10, 0, 539, 540);
        Check.due("promise 23: the hour of the stop is 8", driven(y), 553);
        LastMile z = new LastMile();
        z.setRoads(0, 20);
        z.addHome(30, 40, 1);
        z.addVan(100, 1430, 1439);
        z.addParcel(0, 10, 0, 0, 1439);
        Check.due("promise 23: the hour of the minute 1440 is 0", driven(z), 10000 + 1440 + 4 + 20);
    }

    private static void attempts() {
        LastMile x = oneHome(0);
        x.addHome(30, 41, ALL_DAY);
        x.addParcel(2, 10, 0, 0, 1439);
        x.addParcel(0, 10, 0, 0, 1439);
        x.addParcel(1, 10, 0, 0, 1439);
        for (int day = 1; day <= 3; day++) {
            Check.due("promise 23: nothing is done on day " + day, driven(x) / 10000, 0);
            for (int i = 0; i < 3; i++) {
                Check.due("promise 23: attempts of " + i, x.parcel(i, 5), day);
                state("promise 23: attempt " + day, x, i, day < 3 ? WAITS : GIVEN_UP, -1);
            }
        }
        LastMile y = oneHome(0);
        y.addHome(30, 41, ALL_DAY);
        y.addParcel(0, 10, 0, 0, 1439);
        driven(y);
        driven(y);
        y.order(0, false, 1);
        Check.due("promise 23: left at the third attempt", driven(y) / 10000, 1);
        state("promise 23: left at the third attempt", y, 0, WITH_NEIGHBOUR, 1);
        Check.due("promise 23: the third attempt", y.parcel(0, 5), 3);
        LastMile z = oneHome(1 << 10);
        z.addParcel(0, 10, 0, 0, 1439);
        driven(z);
        driven(z);
        z.addVan(100, 595, 1000);
        z.put(0, 1, 0);
        Check.due("promise 23: handed over behind two attempts", z.drive(), 1);
        state("promise 23: handed over behind two attempts", z, 0, DONE, -1);
        Check.due("promise 23: two attempts stay", z.parcel(0, 5), 2);
    }

    private static void lockerByKind() {
        LastMile x = oneHome(0);
        x.addLocker(30, 51, 9, 9, 9);
        x.order(0, true, 0);
        for (int kind = 0; kind <= 2; kind++) {
            x.addParcel(kind, 5, 0, 0, 1439);
        }
        // 490 + 4, 11 minutes to the locker, 2 there, 11 back to the home, 4, 4, and 10 to the depot.
        Check.due("promise 23: only the kind 0", driven(x), 10000 + 536);
        state("promise 23: kind 0", x, 0, IN_LOCKER, 0);
        state("promise 23: kind 1", x, 1, WAITS, -1);
        state("promise 23: kind 2", x, 2, WAITS, -1);
        for (int i = 0; i < 3; i++) {
            Check.due("promise 23: an attempt of " + i, x.parcel(i, 5), 1);
        }
        Check.due("promise 23: a box less", x.locker(0, 2), 8);
    }

    private static void lockerDistance() {
        for (int distance = 15; distance <= 16; distance++) {
            LastMile x = oneHome(0);
            x.addLocker(30 + distance - 5, 45, 9, 9, 9);
            x.order(0, true, 0);
            x.addParcel(0, 5, 0, 0, 1439);
            boolean isNear = distance == 15;
            Check.due("promise 23: locker at " + distance, driven(x), isNear ? 10000 + 494 + 15 + 2 + 25 : 504);
            state("promise 23: locker at " + distance, x, 0, isNear ? IN_LOCKER : WAITS, isNear ? 0 : -1);
        }
    }

    private static void leastBox() {
        int[] volumes = {1, 5, 6, 15, 16, 40};
        int[] boxes = {0, 0, 1, 1, 2, 2};
        for (int i = 0; i < volumes.length; i++) {
            LastMile x = oneHome(0);
            x.addLocker(30, 54, 9, 9, 9);
            x.order(0, true, 0);
            x.addParcel(0, volumes[i], 0, 0, 1439);
            driven(x);
            for (int size = 0; size < 3; size++) {
                Check.due("promise 23: volume " + volumes[i] + ", free boxes of size " + size, x.locker(0, 2 + size),
                    size == boxes[i] ? 8 : 9);
            }
        }
    }

    /** On two days, so that there is room; what is laid in on the first lies there on the second. */
    private static void boxes() {
        int[] volumes = {5, 6, 15, 16, 40, 5, 5, 15, 1, 6, 16};
        int[] boxes = {0, 1, 1, 2, 2, 0, 1, 2, 2, -1, -1};
        LastMile x = new LastMile();
        x.addHome(30, 40, 0);
        x.addVan(200, 480, 1000);
        x.addLocker(30, 54, 2, 3, 4);
        x.order(0, true, 0);
        int[] free = {2, 3, 4};
        for (int i = 0; i < volumes.length; i++) {
            x.addParcel(0, volumes[i], 0, 0, 1439);
            x.put(i, 0, i % 6);
            if (boxes[i] >= 0) {
                free[boxes[i]]--;
            }
            if (i == 5 || i == volumes.length - 1) {
                x.drive();
                for (int size = 0; size < 3; size++) {
                    Check.due("promise 23: behind " + i + ", boxes of size " + size, x.locker(0, 2 + size), free[size]);
                }
            }
        }
        for (int i = 0; i < volumes.length; i++) {
            state("promise 23: volume " + volumes[i], x, i, boxes[i] >= 0 ? IN_LOCKER : WAITS, boxes[i] >= 0 ? 0 : -1);
        }
    }

    private static void fetchedFromLocker() {
        for (int distance = 10; distance <= 11; distance++) {
            LastMile x = oneHome(0);
            x.addLocker(30, 40 + distance, 9, 1, 9);
            x.order(0, true, 0);
            x.addParcel(0, 10, 0, 0, 1439);
            Check.due("promise 23: laid in", driven(x) / 10000, 1);
            boolean isFetched = distance == 10;
            state("promise 23: locker at " + distance, x, 0, isFetched ? DONE : IN_LOCKER, isFetched ? -1 : 0);
            Check.due("promise 23: the box is free", x.locker(0, 3), isFetched ? 1 : 0);
            Check.due("promise 10: parcels that lie there", x.locker(0, 5), isFetched ? 0 : 1);
        }
    }

    private static void nightsInLocker() {
        LastMile x = oneHome(0);
        x.addLocker(30, 54, 0, 2, 1);
        x.order(0, true, 0);
        x.addParcel(0, 5, 0, 0, 1439);
        driven(x);
        state("promise 23: the first end of a day", x, 0, IN_LOCKER, 0);
        x.addParcel(0, 5, 0, 0, 1439);
        driven(x);
        state("promise 23: the second end of a day", x, 0, IN_LOCKER, 0);
        Check.due("promise 23: no box is free", x.locker(0, 3), 0);
        Check.due("promise 24: one more will be given up", x.foresee(1), 1);
        Check.due("promise 23: nothing is done", x.drive(), 0);
        state("promise 23: the third end of a day", x, 0, GIVEN_UP, -1);
        state("promise 23: laid in a day later", x, 1, IN_LOCKER, 0);
        Check.due("promise 23: its box is free", x.locker(0, 3), 1);
        Check.due("promise 23: not another one", x.locker(0, 4), 1);
        x.drive();
        state("promise 23: laid in a day later", x, 1, GIVEN_UP, -1);
        Check.due("promise 23: all boxes are free", x.locker(0, 3), 2);
        Check.due("promise 23: attempts of what was given up", x.parcel(0, 5), 1);
    }

    private static void neighbour() {
        for (int distance = 8; distance <= 9; distance++) {
            for (int kind = 0; kind <= 2; kind++) {
                LastMile x = oneHome(0);
                x.addHome(30, 40 + distance, ALL_DAY);
                x.order(0, false, 1);
                x.addParcel(kind, 10, 0, 0, 1439);
                boolean isLeft = distance == 8 && kind < 2;
                Check.due("promise 23: neighbour at " + distance + ", kind " + kind, driven(x),
                    isLeft ? 10000 + 494 + 8 + 2 + 18 : 504);
                state("promise 23: neighbour at " + distance + ", kind " + kind, x, 0,
                    isLeft ? WITH_NEIGHBOUR : WAITS, isLeft ? 1 : -1);
                Check.due("promise 9: left there", x.home(1, 5), isLeft ? 1 : 0);
                Check.due("promise 23: an attempt", x.parcel(0, 5), 1);
            }
        }
    }

    private static void firstHomeAsNeighbour() {
        LastMile x = oneHome(ALL_DAY);
        x.addHome(30, 44, 0);
        x.order(1, false, 0);
        x.addParcel(1, 10, 1, 0, 1439);
        Check.due("promise 23: with the home 0", driven(x), 10000 + 498 + 4 + 2 + 10);
        state("promise 23: with the home 0", x, 0, WITH_NEIGHBOUR, 0);
        Check.due("promise 9: left there", x.home(0, 5), 1);
    }

    /** The van comes to the neighbour 4 + 8 minutes behind the stop. */
    private static void neighbourByTheHour() {
        for (int stop = 527; stop <= 528; stop++) {
            LastMile x = oneHome(0);
            x.addHome(30, 48, 1 << 9);
            x.order(0, false, 1);
            x.addParcel(0, 10, 0, stop, 1439);
            boolean isLeft = stop == 528;
            Check.due("promise 23: neighbour at " + (stop + 12), driven(x),
                (isLeft ? 10000 + 2 : 0) + stop + 4 + 8 + 18);
            state("promise 23: neighbour at " + (stop + 12), x, 0, isLeft ? WITH_NEIGHBOUR : WAITS, isLeft ? 1 : -1);
        }
        LastMile late = new LastMile();
        late.addHome(30, 40, 0);
        late.addHome(30, 48, 1);
        late.order(0, false, 1);
        late.addVan(100, 1425, 1439);
        late.addParcel(0, 10, 0, 0, 1439);
        Check.due("promise 23: neighbour at 1447", driven(late), 10000 + 1449 + 18);
    }

    /** From a neighbour, who is not there, the van goes on to the next order; distances are those from the home. */
    private static void ordersOneAfterTheOther() {
        LastMile x = oneHome(0);
        x.addHome(30, 48, 0);
        x.addHome(30, 33, ALL_DAY);
        x.addLocker(30, 52, 9, 9, 9);
        x.order(0, false, 1);
        x.order(0, true, 0);
        x.order(0, false, 2);
        x.addParcel(0, 5, 0, 0, 1439);
        x.addParcel(1, 5, 0, 0, 1439);
        // 494, 8 to the neighbour, 4 on to the locker, 2 there; 12 to the home at 520, 4, 8, and 15 to the other one.
        Check.due("promise 23: orders on the way", driven(x), 20000 + 547 + 2 + 3);
        state("promise 23: in the locker, behind the neighbour", x, 0, IN_LOCKER, 0);
        state("promise 23: with the other neighbour", x, 1, WITH_NEIGHBOUR, 2);
        LastMile y = oneHome(0);
        y.addHome(30, 48, 0);
        y.addHome(30, 49, ALL_DAY);
        y.order(0, false, 1);
        y.order(0, false, 2);
        y.addParcel(0, 5, 0, 0, 1439);
        Check.due("promise 23: near the neighbour, but not the home", driven(y), 494 + 8 + 18);
        state("promise 23: near the neighbour, but not the home", y, 0, WAITS, -1);
    }

    private static void ordersInTheirOrder() {
        for (int first = 0; first < 2; first++) {
            LastMile x = oneHome(0);
            x.addHome(30, 41, ALL_DAY);
            x.addLocker(30, 51, 0, 0, 1);
            x.order(0, first == 1, first == 1 ? 0 : 1);
            x.order(0, first != 1, first == 1 ? 1 : 0);
            x.addParcel(0, 5, 0, 0, 1439);
            x.addParcel(0, 5, 0, 0, 1439);
            Check.due("promise 23: both are brought", driven(x) / 10000, 2);
            state("promise 23: the first order", x, 0, first == 1 ? IN_LOCKER : WITH_NEIGHBOUR, first == 1 ? 0 : 1);
            state("promise 23: no box is left, or the first order", x, 1, WITH_NEIGHBOUR, 1);
            Check.due("promise 23: boxes", x.locker(0, 4), 1 - first);
        }
    }

    private static void restIsLeftOut() {
        for (int from = 536; from <= 537; from++) {
            LastMile x = new LastMile();
            x.addHome(30, 40, ALL_DAY);
            x.addHome(30, 50, 0);
            x.addVan(100, 480, 480);
            x.addParcel(0, 5, 0, from, 1439);
            x.addParcel(0, 5, 1, 0, 1439);
            x.addParcel(0, 5, 0, 0, 1439);
            boolean isDriven = from == 536;
            // 540 is 60 minutes behind the end; the stop at 550 leaves the third one out in any case.
            Check.due("promise 23: at " + (from + 4), driven(x), 10000 + (isDriven ? 574 : 551));
            Check.due("promise 23: an attempt, if it was not left out", x.parcel(1, 5), isDriven ? 1 : 0);
            Check.due("promise 23: the third is left out", x.parcel(2, 6), WAITS);
            Check.due("promise 23: it is on no route any more", x.parcel(2, 7), -1);
            Check.due("promise 23: the route is empty", x.van(0, 3), 0);
        }
    }

    private static void breaksOnTheDrive() {
        LastMile x = oneHome(0);
        x.addLocker(30, 51, 9, 9, 9);
        x.order(0, true, 0);
        x.addParcel(0, 5, 0, 716, 1439);
        // 720 is 240 minutes of work: none ahead of the locker, but one ahead of the way back.
        Check.due("promise 23: no break ahead of a locker", driven(x), 10000 + 720 + 11 + 2 + 30 + 21);
        LastMile y = oneHome(0);
        y.addHome(30, 48, ALL_DAY);
        y.order(0, false, 1);
        y.addParcel(0, 5, 0, 716, 1439);
        Check.due("promise 23: no break ahead of a neighbour", driven(y), 10000 + 720 + 8 + 2 + 30 + 18);
        LastMile z = oneHome(ALL_DAY);
        z.addParcel(0, 5, 0, 706, 1439);
        Check.due("promise 23: 240 minutes of work", driven(z), 10000 + 720);
        LastMile w = oneHome(ALL_DAY);
        w.addParcel(0, 5, 0, 707, 1439);
        Check.due("promise 23: 241 minutes of work", driven(w), 10000 + 751);
        LastMile late = new LastMile();
        late.addHome(30, 40, ALL_DAY);
        late.addVan(100, 480, 670);
        late.addParcel(0, 5, 0, 726, 1439);
        late.addParcel(0, 5, 0, 0, 1439);
        Check.due("promise 23: 60 behind the end, ahead of a break", driven(late), 20000 + 730 + 30 + 4 + 10);
    }

    private static void vansByNumbers() {
        LastMile x = oneHome(0);
        x.addVan(100, 0, 1000);
        x.addLocker(30, 51, 1, 0, 0);
        x.order(0, true, 0);
        x.addParcel(0, 5, 0, 0, 1439);
        x.addParcel(0, 5, 0, 0, 1439);
        x.put(0, 1, 0);
        x.put(1, 0, 0);
        Check.due("promise 24: the later one", x.foresee(2), 494 + 11 + 2 + 21);
        Check.due("promise 23: there is one box", x.drive(), 1);
        state("promise 23: the van 0, though it begins later", x, 1, IN_LOCKER, 0);
        state("promise 23: the van 1", x, 0, WAITS, -1);
    }

    private static void behindAllVans() {
        LastMile x = oneHome(ALL_DAY);
        x.addVan(100, 600, 700);
        for (int i = 0; i < 4; i++) {
            x.addParcel(0, 5, 0, 0, 1439);
        }
        x.put(0, 0, 0);
        x.put(1, 1, 0);
        x.put(2, 1, 0);
        Check.due("promise 23: by both vans", x.drive(), 3);
        Check.due("promise 23: the day", x.count(0), 1);
        Check.due("promise 23: the route of van 0 is empty", x.van(0, 3), 0);
        Check.due("promise 23: the route of van 1 is empty", x.van(1, 3), 0);
        Check.due("promise 23: costs", x.count(11), 0);
        state("promise 23: what was on no route", x, 3, WAITS, -1);
        Check.due("promise 23: no attempt of it", x.parcel(3, 5), 0);
        Check.due("promise 23: an empty day", x.drive(), 0);
        Check.due("promise 23: the day", x.count(0), 2);
        LastMile y = new LastMile();
        Check.due("promise 23: a day of nothing", y.drive(), 0);
        Check.due("promise 23: the day", y.count(0), 1);
    }

    private static void foresee() {
        LastMile x = oneHome(0);
        x.addVan(100, 900, 1000);
        x.addLocker(30, 51, 9, 9, 9);
        x.order(0, true, 0);
        x.addParcel(0, 5, 0, 0, 1439);
        x.addParcel(1, 5, 0, 0, 1439);
        x.put(0, 0, 0);
        x.put(1, 0, 1);
        long before = x.digest();
        Check.due("promise 24: what drive() would tell", x.foresee(0), 1);
        Check.due("promise 24: none is given up", x.foresee(1), 0);
        Check.due("promise 24: a van without parcels", x.foresee(2), 900);
        Check.due("promise 24: nothing is changed", x.digest(), before);
        Check.due("promise 24: as it was told", x.drive(), 1);
        x.put(1, 1, 0);
        Check.due("promise 24: a later day", x.foresee(2), 924);
        x.take(1);
        Check.due("promise 24: not the latest minute of another day", x.foresee(2), 900);
        for (int wrong : WRONG) {
            Check.index("promise 24: what " + wrong, x, () -> x.foresee(wrong));
        }
        Check.index("promise 24: what 3", x, () -> x.foresee(3));
    }

    /** One is given up by its attempts, one by its nights in a locker; looking ahead adds neither. */
    private static void foreseeGivenUp() {
        LastMile x = oneHome(0);
        x.addLocker(30, 54, 1, 0, 0);
        x.order(0, true, 0);
        x.addParcel(0, 5, 0, 0, 1439);
        x.addParcel(2, 5, 0, 0, 1439);
        for (int day = 0; day < 3; day++) {
            for (int i = 0; i < 2; i++) {
                if (x.parcel(i, 6) == WAITS) {
                    x.put(i, 0, x.van(0, 3));
                }
            }
            for (int again = 0; again < 4; again++) {
                Check.due("promise 24: more given up on day " + day, x.foresee(1), day == 2 ? 2 : 0);
                Check.due("promise 24: done on day " + day, x.foresee(0), day == 0 ? 1 : 0);
            }
            x.drive();
        }
        Check.due("promise 24: as it was told", x.count(10), 2);
        Check.due("promise 24: more than now, not all", x.foresee(1), 0);
    }

    private static void hour() {
        int[] hours = {0, ALL_DAY, 1, 1 << 23, 0b0110_1110, 0b1110_0110, 0xC00003, 0x55_5555, 0xE00001, 0xFFF7FF, 0xFFEFFF};
        int[] due = {-1, 0, 0, 23, 1, 5, 0, 0, 21, 12, 0};
        for (int i = 0; i < hours.length; i++) {
            LastMile x = new LastMile();
            x.addHome(0, 0, ALL_DAY);
            x.addHome(0, 0, hours[i]);
            Check.due("promise 25: hours " + hours[i], x.hour(1), due[i]);
        }
        LastMile x = oneHome(0);
        for (int wrong : WRONG) {
            Check.index("promise 25: home " + wrong, x, () -> x.hour(wrong));
        }
        Check.index("promise 25: home 1", x, () -> x.hour(1));
    }

    private static void mean() {
        LastMile x = oneHome(0);
        Check.due("promise 26: no parcels", x.mean(), 0.0);
        for (int i = 0; i < 3; i++) {
            x.addParcel(0, 5, 0, 0, 1439);
        }
        Check.due("promise 26: no attempts", x.mean(), 0.0);
        x.put(0, 0, 0);
        x.drive();
        Check.due("promise 26: one of three", x.mean(), 1.0 / 3);
        x.put(0, 0, 0);
        x.put(1, 0, 0);
        x.drive();
        Check.due("promise 26: three of three", x.mean(), 1.0);
        x.put(0, 0, 0);
        x.put(1, 0, 0);
        x.drive();
        Check.due("promise 26: five of three, one is given up", x.mean(), 5.0 / 3);
    }

    private static long mixed(long start, long... numbers) {
        long d = start;
        for (long number : numbers) {
            d = d * 31 + number;
        }
        return d;
    }

    private static void digest() {
        LastMile x = new LastMile();
        long d = mixed(859, 0, 0, 0, 0, 0, 0, 0, 0, 0, 0, 0, 0);
        for (int hour = 0; hour < 24; hour++) {
            d = mixed(d, 10);
        }
        Check.due("promise 27: a new object", x.digest(), mixed(d, 30, 30));
        x.setRoads(8, 20);
        x.setRoads(22, 5);
        x.setDepot(20, 40);
        x.addHome(30, 40, 0);
        x.addHome(31, 41, ALL_DAY);
        x.addLocker(10, 11, 2, 3, 4);
        x.addLocker(12, 13, 5, 6, 7);
        x.order(0, false, 1);
        x.order(0, true, 1);
        x.order(1, true, 0);
        x.addVan(70, 480, 900);
        x.addVan(80, 481, 901);
        x.addParcel(0, 12, 0, 0, 505);
        x.addParcel(2, 20, 1, 1, 1438);
        x.addParcel(1, 30, 1, 2, 1437);
        x.put(0, 0, 0);
        x.put(1, 0, 0);
        d = mixed(859, 0, 2, 2, 2, 3, 3, 1, 0, 0, 0, 0, 48 + 3 * 7);
        for (int hour = 0; hour < 24; hour++) {
            d = mixed(d, hour == 8 ? 20 : hour == 22 ? 5 : 10);
        }
        d = mixed(d, 20, 40);
        d = mixed(d, 30, 40, 0, 2, 1, 0, 201, 101);
        d = mixed(d, 31, 41, ALL_DAY, 1, 2, 0, 100);
        d = mixed(d, 10, 11, 2, 3, 4, 0);
        d = mixed(d, 12, 13, 5, 6, 7, 0);
        d = mixed(d, 0, 12, 0, 0, 505, 0, 0, 0, -1);
        d = mixed(d, 2, 20, 1, 1, 1438, 0, 0, 0, -1);
        d = mixed(d, 1, 30, 1, 2, 1437, 0, 0, -1, -1);
        // Home 1 at 480 + 24, home 0 at 508 + 4, and back in 20 minutes from 516.
        d = mixed(d, 70, 480, 900, 2, 48 + 3 * 7, 48, 7, 536, 0, 32);
        d = mixed(d, 1, 0);
        d = mixed(d, 80, 481, 901, 0, 0, 0, 0, 481, 0, 0);
        Check.due("promise 27: what there is", x.digest(), d);
    }
}
