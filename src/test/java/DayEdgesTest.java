import java.math.BigInteger;

/** Each sentence of "Driving a day" and the promises 23 to 27 that names a boundary case; each test quotes its own. */
public final class DayEdgesTest {
    private static final int ALL_DAY = Made.ALL_DAY;
    private static final Class<IndexOutOfBoundsException> INDEX = IndexOutOfBoundsException.class;

    private static final int WAITS = 0;
    private static final int DONE = 1;
    private static final int IN_LOCKER = 2;
    private static final int WITH_NEIGHBOUR = 3;
    private static final int GIVEN_UP = 4;

    public static void main(String[] args) {
        vansByNumbers();
        restBehindTheShift();
        restBehindTheLastMinute();
        restAheadOfABreak();
        allOfTheRest();
        hourOfTheStop();
        hourBehindMidnight();
        fetchedIsNotTried();
        noOrders();
        lockerDistance();
        lockerNotForKind1();
        lockerBoxes();
        lockerLastBox();
        lockerTwoMinutes();
        neighbourDistance();
        neighbourHour();
        neighbourGoesOn();
        threeOrders();
        distancesFromTheHome();
        noBreakAheadOfALocker();
        noBreakAheadOfANeighbour();
        breaksOfTheDrive();
        twoAttempts();
        thirdAttempt();
        thirdAttemptThatWorks();
        drivesOnBehindMidnight();
        routesAreEmpty();
        fetchedFromLocker();
        boxBehindAllVans();
        threeEndsOfDays();
        endsOfDaysOfEach();
        dayIsGreater();
        driveHowMany();
        foreseeWhat();
        foreseeWithoutVans();
        foreseeLatest();
        foreseeGivenUp();
        foreseeChangesNothing();
        hourWithout();
        hourOfSeveral();
        hourNotBehind23();
        hourNoSuchHome();
        meanWithout();
        meanOfAll();
        digestOfNothing();
        digestWraps();
        digestOfAll();
        Check.end();
    }

    /** The minute in which the latest van comes back on the drive, and what drive() tells. */
    private static void drives(String what, LastMile x, int due, int back) {
        Check.due(what + ": foresee(0)", x.foresee(0), due);
        Check.due(what + ": foresee(2)", x.foresee(2), back);
        Check.due(what + ": drive()", x.drive(), due);
    }

    private static void state(String what, LastMile x, int parcel, int state, int where) {
        Check.due(what + ": parcel(" + parcel + ", 6)", x.parcel(parcel, 6), state);
        Check.due(what + ": parcel(" + parcel + ", 8)", x.parcel(parcel, 8), where);
    }

    /** Home 0 at (30, 40), where nobody is, van 0 from 480 till 1000, and a parcel for it on its route. */
    private static LastMile nobody(int kind, int volume, int from) {
        LastMile x = Made.oneHome(0);
        x.put(x.addParcel(kind, volume, 0, from, 1439), 0, 0);
        return x;
    }

    /** "Vans by numbers": the last box is that of van 0, though van 3 comes earlier. */
    private static void vansByNumbers() {
        LastMile x = Made.oneHome(0);
        x.addLocker(30, 54, 1, 0, 0);
        x.order(0, true, 0);
        for (int i = 0; i < 4; i++) {
            if (i > 0) {
                x.addVan(10, 480 - 100 * i, 1000);
            }
            x.put(x.addParcel(0, 1, 0, 0, 1439), i, 0);
        }
        drives("driving: vans by numbers", x, 1, 494 + 14 + 2 + 24);
        state("driving: of van 0", x, 0, IN_LOCKER, 0);
        for (int i = 1; i < 4; i++) {
            state("driving: of van " + i, x, i, WAITS, -1);
        }
    }

    /** "If the minute, ahead of a stop's way ..., is more than 60 behind the end of the shift". */
    private static void restBehindTheShift() {
        for (int from = 655; from <= 657; from++) {
            LastMile x = Made.near(480, 600);
            Made.stopAt(x, 0, from, 1439);
            Made.stopAt(x, 1, 0, 1439);
            boolean isLeftOut = from == 657;
            drives("driving: at " + (from + 4), x, isLeftOut ? 1 : 2, from + 4 + (isLeftOut ? 0 : 24));
            state("driving: the rest at " + (from + 4), x, 1, isLeftOut ? WAITS : DONE, -1);
        }
    }

    /** The same, behind the last minute of the day. */
    private static void restBehindTheLastMinute() {
        for (int y = 56; y <= 57; y++) {
            LastMile x = new LastMile();
            x.addHome(60, y, ALL_DAY);
            x.addVan(10, 1439, 1439);
            Made.stopAt(x, 0, 0, 1439);
            Made.stopAt(x, 0, 0, 1439);
            boolean isLeftOut = y == 57;
            drives("driving: at " + (1443 + y), x, isLeftOut ? 1 : 2, 1443 + y + (isLeftOut ? 0 : 4) + y);
            state("driving: the rest at " + (1443 + y), x, 1, isLeftOut ? WAITS : DONE, -1);
        }
    }

    /** "(And of a break for it)": the break comes behind that minute, and does not leave the rest out. */
    private static void restAheadOfABreak() {
        for (int from = 656; from <= 657; from++) {
            LastMile x = Made.near(400, 600);
            Made.stopAt(x, 0, from, 1439);
            Made.stopAt(x, 1, 0, 1439);
            boolean isLeftOut = from == 657;
            // Behind the break, at 690, come 10 minutes there, 4, and 10 back; or the break alone, ahead of going back.
            drives("driving: a break at " + (from + 4), x, isLeftOut ? 1 : 2, isLeftOut ? 661 + 30 : 690 + 24);
        }
    }

    /** "The rest of the route is left out, and the van goes back": no attempts, and all of them wait. */
    private static void allOfTheRest() {
        LastMile x = new LastMile();
        x.addHome(30, 40, 0);
        x.addHome(30, 45, ALL_DAY);
        x.addVan(200, 480, 480);
        x.addVan(200, 480, 1000);
        Made.stopAt(x, 0, 537, 1439);
        for (int i = 1; i < 12; i++) {
            Made.stopAt(x, i % 2, 0, 1439);
        }
        x.put(x.addParcel(0, 1, 1, 0, 1439), 1, 0);
        drives("driving: the rest", x, 1, 551);
        Check.due("driving: an attempt ahead of the rest", x.parcel(0, 5), 1);
        for (int i = 1; i < 12; i++) {
            state("driving: the rest", x, i, WAITS, -1);
            Check.due("driving: no attempt of the rest", x.parcel(i, 5), 0);
            Check.due("driving: the rest is on no route", x.parcel(i, 7), -1);
        }
        state("driving: the rest of one van is not that of another", x, 12, DONE, -1);
    }

    /** "Somebody is at home, if the hour of the minute of the stop is one of the home's hours". */
    private static void hourOfTheStop() {
        for (int kind = 0; kind <= 2; kind++) {
            for (int from : new int[] {539, 540, 599, 600}) {
                LastMile x = Made.oneHome(1 << 9);
                x.put(x.addParcel(kind, 1, 0, from, 1439), 0, 0);
                boolean isIn = from == 540 || from == 599;
                drives("driving: a stop at " + from, x, isIn ? 1 : 0, from + 14);
                state("driving: a stop at " + from, x, 0, isIn ? DONE : WAITS, -1);
                Check.due("driving: attempts at " + from, x.parcel(0, 5), isIn ? 0 : 1);
            }
        }
    }

    /** The same: 1439 is in the hour 23, and 1440 in the hour 0. */
    private static void hourBehindMidnight() {
        for (int start = 1429; start <= 1430; start++) {
            for (int hour = 0; hour <= 23; hour += 23) {
                LastMile x = new LastMile();
                x.addHome(30, 40, 1 << hour);
                x.addVan(10, start, 1439);
                Made.stopAt(x, 0, 0, 1439);
                boolean isIn = (start == 1430) == (hour == 0);
                drives("driving: a stop at " + (start + 10) + ", hour " + hour, x, isIn ? 1 : 0, start + 24);
            }
        }
    }

    /** "One of the kind 2 is not fetched. Of one of the other kinds the orders of the home are tried". */
    private static void fetchedIsNotTried() {
        for (int kind = 0; kind <= 2; kind++) {
            LastMile x = nobody(kind, 1, 0);
            x.addHome(30, 41, ALL_DAY);
            x.addLocker(30, 41, 9, 9, 9);
            x.order(0, true, 0);
            x.order(0, false, 1);
            drives("driving: kind " + kind, x, kind == 2 ? 0 : 1, kind == 2 ? 504 : 494 + 1 + 2 + 11);
            state("driving: kind " + kind, x, 0, kind == 0 ? DONE : kind == 1 ? WITH_NEIGHBOUR : WAITS,
                kind == 1 ? 1 : -1);
            Check.due("driving: an attempt more, kind " + kind, x.parcel(0, 5), 1);
        }
    }

    /** "If none works, the parcel stays on the van, and waits at the depot again": without orders. */
    private static void noOrders() {
        for (int kind = 0; kind <= 2; kind++) {
            LastMile x = nobody(kind, 1, 0);
            drives("driving: no orders, kind " + kind, x, 0, 504);
            state("driving: no orders, kind " + kind, x, 0, WAITS, -1);
            Check.due("driving: it can be put again", x.put(0, 0, 0), 20);
        }
    }

    /** "If its distance from the home is at most 15". */
    private static void lockerDistance() {
        int[][] places = {{30, 40, 0}, {30, 55, 15}, {30, 56, 16}, {22, 47, 15}, {22, 48, 16}, {45, 40, 15},
            {45, 39, 16}, {30, 25, 15}, {30, 24, 16}};
        for (int[] place : places) {
            LastMile x = nobody(0, 1, 0);
            x.addLocker(place[0], place[1], 1, 1, 1);
            x.order(0, true, 0);
            boolean isNear = place[2] <= 15;
            String what = "driving: a locker at the distance " + place[2];
            int back = Math.abs(place[0] - 30) + Math.abs(place[1] - 30);
            drives(what, x, isNear ? 1 : 0, isNear ? 494 + place[2] + 2 + back : 504);
            state(what, x, 0, place[2] == 0 ? DONE : isNear ? IN_LOCKER : WAITS, place[2] == 15 ? 0 : -1);
        }
    }

    /** "With a locker (not for the kind 1)". */
    private static void lockerNotForKind1() {
        for (int kind = 0; kind <= 1; kind++) {
            LastMile x = nobody(kind, 1, 0);
            x.addLocker(30, 55, 9, 9, 9);
            x.order(0, true, 0);
            drives("driving: a locker, kind " + kind, x, kind == 0 ? 1 : 0, kind == 0 ? 494 + 15 + 2 + 25 : 504);
            state("driving: a locker, kind " + kind, x, 0, kind == 0 ? IN_LOCKER : WAITS, kind == 0 ? 0 : -1);
        }
    }

    /** "A parcel takes a free box of the least size that is enough for it and of which there is one". */
    private static void lockerBoxes() {
        int[] volumes = {1, 5, 6, 15, 16, 40};
        int[] enough = {0, 0, 1, 1, 2, 2};
        for (int i = 0; i < volumes.length; i++) {
            for (int free = 0; free < 8; free++) {
                LastMile x = nobody(0, volumes[i], 0);
                x.addLocker(30, 54, free & 1, free >> 1 & 1, free >> 2 & 1);
                x.order(0, true, 0);
                int box = enough[i];
                while (box < 3 && (free >> box & 1) == 0) {
                    box++;
                }
                String what = "driving: volume " + volumes[i] + ", free boxes " + free;
                drives(what, x, box < 3 ? 1 : 0, box < 3 ? 494 + 14 + 2 + 24 : 504);
                state(what, x, 0, box < 3 ? IN_LOCKER : WAITS, box < 3 ? 0 : -1);
                for (int size = 0; size < 3; size++) {
                    Check.due(what + ", of the size " + size, x.locker(0, 2 + size),
                        size == box ? 0 : free >> size & 1);
                }
            }
        }
    }

    /** "And there is a box that it can take": nine of a size, and no tenth. */
    private static void lockerLastBox() {
        LastMile x = Made.oneHome(0);
        x.addLocker(30, 54, 9, 9, 9);
        x.order(0, true, 0);
        for (int i = 0; i < 11; i++) {
            x.put(x.addParcel(0, 16, 0, 0, 1439), 0, i);
        }
        Check.due("driving: nine boxes", x.drive(), 9);
        state("driving: the ninth", x, 8, IN_LOCKER, 0);
        state("driving: a tenth", x, 9, WAITS, -1);
        Check.due("driving: none of the size 2 is free", x.locker(0, 4), 0);
        Check.due("driving: the others are free", x.locker(0, 2) + x.locker(0, 3), 18);
    }

    /** "Lays it in, in 2 minutes"; "the way to the next stop, or back, begins where the van is then". */
    private static void lockerTwoMinutes() {
        for (int hour = 8; hour <= 9; hour++) {
            LastMile x = nobody(0, 1, 527);
            x.addHome(30, 54, 1 << hour);
            x.addLocker(30, 47, 9, 9, 9);
            x.order(0, true, 0);
            Made.stopAt(x, 1, 0, 1439);
            // 527, 4, 7 to the locker, 2, and 7 to the next home: 547. As it was planned it would be 545.
            drives("driving: behind a locker", x, hour == 9 ? 2 : 1, 547 + 4 + 24);
        }
        for (int from = 519; from <= 520; from++) {
            LastMile x = nobody(0, 1, from);
            x.addHome(30, 54, 1 << 9);
            x.addLocker(30, 47, 9, 9, 9);
            x.order(0, true, 0);
            Made.stopAt(x, 1, 0, 1439);
            Check.due("driving: the next home at " + (from + 20), x.drive(), from == 520 ? 2 : 1);
        }
    }

    /** "With a neighbour, if its distance from the home is at most 8". */
    private static void neighbourDistance() {
        int[][] places = {{30, 40, 0}, {30, 48, 8}, {30, 49, 9}, {26, 44, 8}, {26, 45, 9}, {38, 40, 8}, {38, 39, 9},
            {30, 32, 8}, {30, 31, 9}};
        for (int[] place : places) {
            for (int kind = 0; kind <= 1; kind++) {
                LastMile x = nobody(kind, 40, 0);
                x.addHome(place[0], place[1], ALL_DAY);
                x.order(0, false, 1);
                boolean isNear = place[2] <= 8;
                String what = "driving: a neighbour at the distance " + place[2] + ", kind " + kind;
                int back = Math.abs(place[0] - 30) + Math.abs(place[1] - 30);
                drives(what, x, isNear ? 1 : 0, isNear ? 494 + place[2] + 2 + back : 504);
                state(what, x, 0, isNear ? WITH_NEIGHBOUR : WAITS, isNear ? 1 : -1);
                Check.due(what + ", an attempt", x.parcel(0, 5), 1);
            }
        }
    }

    /** "In 2 minutes leaves it there, if somebody is at home in the hour in which it comes". */
    private static void neighbourHour() {
        for (int from : new int[] {526, 527, 528, 529, 587, 588}) {
            LastMile x = nobody(1, 1, from);
            x.addHome(30, 48, 1 << 9);
            x.order(0, false, 1);
            boolean isIn = from + 12 >= 540 && from + 12 < 600;
            drives("driving: at a neighbour at " + (from + 12), x, isIn ? 1 : 0, from + 12 + (isIn ? 2 : 0) + 18);
            state("driving: at a neighbour at " + (from + 12), x, 0, isIn ? WITH_NEIGHBOUR : WAITS, isIn ? 1 : -1);
        }
    }

    /** "Otherwise it goes on from there to the next order"; if there is none, from there to the next stop. */
    private static void neighbourGoesOn() {
        LastMile x = nobody(0, 1, 0);
        x.addHome(30, 48, 0);
        x.addLocker(30, 55, 1, 1, 1);
        x.order(0, false, 1);
        x.order(0, true, 0);
        drives("driving: on to a locker", x, 1, 494 + 8 + 7 + 2 + 25);
        LastMile y = nobody(1, 1, 0);
        y.addHome(30, 48, 0);
        y.addHome(30, 32, ALL_DAY);
        y.order(0, false, 1);
        y.order(0, false, 2);
        drives("driving: on to another neighbour", y, 1, 494 + 8 + 16 + 2 + 2);
        state("driving: on to another neighbour", y, 0, WITH_NEIGHBOUR, 2);
        LastMile z = nobody(1, 1, 0);
        z.addHome(30, 48, 0);
        z.order(0, false, 1);
        Made.stopAt(z, 1, 0, 1439);
        drives("driving: nobody there, and none is left", z, 0, 494 + 8 + 4 + 18);
    }

    /** "The orders of the home are tried, one after the other": none, or only the third works. */
    private static void threeOrders() {
        for (int works = 0; works <= 3; works++) {
            LastMile x = nobody(0, 6, 0);
            for (int i = 1; i <= 3; i++) {
                x.addHome(30, 40 + i, i == works ? ALL_DAY : 0);
                x.order(0, false, i);
            }
            // The van goes from one to the next, a minute each.
            drives("driving: the order " + works + " works", x, works == 0 ? 0 : 1,
                works == 0 ? 497 + 13 : 494 + works + 2 + 10 + works);
            state("driving: the order " + works + " works", x, 0, works == 0 ? WAITS : WITH_NEIGHBOUR,
                works == 0 ? -1 : works);
        }
        LastMile y = nobody(0, 6, 0);
        y.addLocker(30, 54, 9, 0, 0);
        y.addLocker(30, 56, 9, 9, 9);
        y.addLocker(30, 55, 0, 0, 1);
        for (int i = 0; i < 3; i++) {
            y.order(0, true, i);
        }
        drives("driving: no box, too far, and the third", y, 1, 494 + 15 + 2 + 25);
        state("driving: no box, too far, and the third", y, 0, IN_LOCKER, 2);
    }

    /** "If its distance from the home is at most 15", or 8: from the home, also if the van is at a neighbour. */
    private static void distancesFromTheHome() {
        for (int y = 55; y <= 56; y++) {
            LastMile x = nobody(0, 1, 0);
            x.addHome(30, 48, 0);
            x.addLocker(30, y, 1, 1, 1);
            x.order(0, false, 1);
            x.order(0, true, 0);
            Check.due("driving: near the neighbour, a locker at " + (y - 40), x.drive(), y == 55 ? 1 : 0);
        }
        LastMile far = nobody(0, 1, 0);
        far.addHome(30, 48, 0);
        far.addLocker(30, 25, 1, 1, 1);
        far.order(0, false, 1);
        far.order(0, true, 0);
        drives("driving: a locker at 15, and at 23 of the neighbour", far, 1, 494 + 8 + 23 + 2 + 5);
        for (int y = 31; y <= 32; y++) {
            LastMile x = nobody(0, 1, 0);
            x.addHome(30, 48, 0);
            x.addHome(30, y, ALL_DAY);
            x.order(0, false, 1);
            x.order(0, false, 2);
            Check.due("driving: far from one neighbour, another one at " + (40 - y), x.drive(), y == 32 ? 1 : 0);
        }
    }

    /** "The van goes there (no break ahead of this), and lays it in": it begins to go in the hour 12, not 13. */
    private static void noBreakAheadOfALocker() {
        LastMile x = nobody(0, 1, 750);
        x.setRoads(13, 20);
        x.addLocker(30, 54, 1, 0, 0);
        x.order(0, true, 0);
        // 754 is 274 minutes of work; 14 to the locker, 2, the break, and 24 by the roads of the hour 13.
        drives("driving: no break ahead of a locker", x, 1, 754 + 14 + 2 + 30 + 48);
        for (int from = 716; from <= 717; from++) {
            LastMile y = nobody(0, 1, from);
            y.addLocker(30, 54, 1, 0, 0);
            y.order(0, true, 0);
            drives("driving: a locker, work of " + (from + 4 - 480), y, 1, from + 4 + 14 + 2 + 30 + 24);
        }
    }

    /** "(No break ahead of this either)": the van comes in the hour 12, not 13. */
    private static void noBreakAheadOfANeighbour() {
        LastMile x = nobody(1, 1, 750);
        x.addHome(30, 48, 0);
        x.addHome(30, 47, 1 << 12);
        x.order(0, false, 1);
        x.order(0, false, 2);
        drives("driving: no break ahead of neighbours", x, 1, 754 + 8 + 1 + 2 + 30 + 17);
        state("driving: no break ahead of neighbours", x, 0, WITH_NEIGHBOUR, 2);
        LastMile y = nobody(1, 1, 750);
        y.addHome(30, 48, 1 << 12);
        y.order(0, false, 1);
        drives("driving: no break ahead of a neighbour", y, 1, 754 + 8 + 2 + 30 + 18);
    }

    /** "Each drives as it was planned (breaks and waiting by the minutes and places as they are on the drive)". */
    private static void breaksOfTheDrive() {
        for (int from = 688; from <= 689; from++) {
            LastMile x = nobody(0, 1, from);
            x.addLocker(30, 51, 1, 0, 0);
            x.order(0, true, 0);
            // 4, 11 to the locker, 2, and 15 of the 21 back to a home at the distance 15 of the locker.
            x.addHome(30, 36, ALL_DAY);
            Made.stopAt(x, 1, 0, 1439);
            Check.due("driving: planned without a break ahead of it", x.stop(0, 1, 0), from + 8);
            int come = from == 688 ? 720 : from + 17 + 30 + 15;
            int back = come + 4 + (from == 688 ? 30 : 0) + 6;
            drives("driving: work of " + (from + 32 - 480), x, 2, back);
        }
        LastMile y = nobody(0, 1, 0);
        y.addLocker(30, 54, 1, 0, 0);
        y.order(0, true, 0);
        y.put(y.addParcel(2, 1, 0, 524, 1439), 0, 1);
        // Planned it waits there from 494 till 524; driven it comes in this minute.
        drives("driving: it waits no more", y, 0 + 1, 524 + 14);
    }

    /** "With 3 attempts a parcel ... is given up": not with 2. */
    private static void twoAttempts() {
        for (int kind = 0; kind <= 2; kind++) {
            LastMile x = nobody(kind, 1, 0);
            x.drive();
            x.put(0, 0, 0);
            Check.due("driving: not given up, kind " + kind, x.foresee(1), 0);
            x.drive();
            state("driving: two attempts, kind " + kind, x, 0, WAITS, -1);
            Check.due("driving: two attempts, kind " + kind, x.parcel(0, 5), 2);
            Check.due("driving: it can be put again, kind " + kind, x.put(0, 0, 0), 20);
        }
    }

    /** "With 3 attempts a parcel that was not handed over, laid in, left or fetched is given up". */
    private static void thirdAttempt() {
        for (int kind = 0; kind <= 2; kind++) {
            LastMile x = nobody(kind, 1, 0);
            x.drive();
            x.put(0, 0, 0);
            x.drive();
            x.put(0, 0, 0);
            Check.due("driving: given up, kind " + kind, x.foresee(1), 1);
            Check.due("driving: nothing is done, kind " + kind, x.drive(), 0);
            state("driving: three attempts, kind " + kind, x, 0, GIVEN_UP, -1);
            Check.due("driving: three attempts, kind " + kind, x.parcel(0, 5), 3);
            Check.state("driving: it does not wait, kind " + kind, x, () -> x.put(0, 0, 0));
        }
    }

    /** The same: laid in or left at the third attempt, or handed over or fetched behind the second, it is not. */
    private static void thirdAttemptThatWorks() {
        for (int how = 0; how < 4; how++) {
            LastMile x = Made.oneHome(1 << 10);
            x.addHome(30, 41, ALL_DAY);
            x.addLocker(30, 54, 1, 1, 1);
            x.addVan(10, 590, 1000);
            x.put(x.addParcel(how == 3 ? 2 : 0, 1, 0, 0, 1439), 0, 0);
            x.drive();
            x.put(0, 0, 0);
            x.drive();
            if (how < 2) {
                x.order(0, how == 0, how == 0 ? 0 : 1);
            }
            x.put(0, how < 2 ? 0 : 1, 0);
            Check.due("driving: not given up, " + how, x.foresee(1), 0);
            Check.due("driving: done, " + how, x.drive(), 1);
            int[] states = {IN_LOCKER, WITH_NEIGHBOUR, DONE, DONE};
            state("driving: not given up, " + how, x, 0, states[how], how < 2 ? how : -1);
            Check.due("driving: attempts, " + how, x.parcel(0, 5), how < 2 ? 3 : 2);
        }
    }

    /** "Minutes are not held at 1439: who drives behind midnight drives on". */
    private static void drivesOnBehindMidnight() {
        LastMile x = Made.away(120, 30);
        x.addVan(10, 1439, 1439);
        Made.stopAt(x, 0, 0, 1439);
        drives("driving: behind midnight", x, 1, 1439 + 30 + 360 + 4 + 30 + 360);
        LastMile y = new LastMile();
        y.setRoads(0, 30);
        y.addHome(30, 40, 0);
        y.addHome(30, 48, 1);
        y.order(0, false, 1);
        y.addVan(10, 1425, 1439);
        Made.stopAt(y, 0, 0, 1439);
        // 1435 and 4 in the hour 23; from 1439 8 minutes to the neighbour, 2, and back by the roads of the hour 0.
        drives("driving: a neighbour behind midnight", y, 1, 1449 + 54);
    }

    /** "Behind all vans: all routes are empty". */
    private static void routesAreEmpty() {
        LastMile x = Made.full();
        Check.due("driving: all are on routes", x.plan(), 30);
        x.drive();
        for (int van = 0; van < 4; van++) {
            Made.row("driving: behind all vans", x, van);
        }
        for (int i = 0; i < 30; i++) {
            Check.due("driving: behind all vans, the van of " + i, x.parcel(i, 7), -1);
        }
    }

    /** "Each parcel that lies in a locker is fetched, if the distance of this from its home is at most 10". */
    private static void fetchedFromLocker() {
        for (int distance : new int[] {0, 1, 9, 10, 11, 15}) {
            LastMile x = nobody(0, 16, 0);
            x.addLocker(30, 40 + distance, 1, 1, 1);
            x.order(0, true, 0);
            boolean isFetched = distance <= 10;
            String what = "driving: a locker at the distance " + distance;
            Check.due(what, x.drive(), 1);
            state(what, x, 0, isFetched ? DONE : IN_LOCKER, isFetched ? -1 : 0);
            Check.due(what + ", its box", x.locker(0, 4), isFetched ? 1 : 0);
            Check.due(what + ", handed over", x.count(7), isFetched ? 1 : 0);
        }
    }

    /** "Behind all vans": the box is not free any earlier. */
    private static void boxBehindAllVans() {
        LastMile x = nobody(0, 1, 0);
        x.addLocker(30, 50, 1, 0, 0);
        x.order(0, true, 0);
        x.addVan(10, 900, 1000);
        x.put(x.addParcel(0, 1, 0, 0, 1439), 1, 0);
        Check.due("driving: one box on a day", x.drive(), 1);
        state("driving: it was fetched", x, 0, DONE, -1);
        state("driving: there was no box", x, 1, WAITS, -1);
        Check.due("driving: the box is free", x.locker(0, 2), 1);
        x.put(1, 0, 0);
        Check.due("driving: one box on the next day", x.drive(), 1);
        state("driving: it was fetched", x, 1, DONE, -1);
    }

    /** "If it has lain there for 3 ends of days with this one, it is given up (the box is free)". */
    private static void threeEndsOfDays() {
        LastMile x = nobody(0, 1, 0);
        x.addLocker(30, 51, 0, 0, 1);
        x.order(0, true, 0);
        for (int ends = 1; ends <= 4; ends++) {
            Check.due("driving: given up at the end of day " + ends, x.foresee(1), ends == 3 ? 1 : 0);
            Check.due("driving: done on day " + ends, x.drive(), ends == 1 ? 1 : 0);
            state("driving: the end of day " + ends, x, 0, ends < 3 ? IN_LOCKER : GIVEN_UP, ends < 3 ? 0 : -1);
            Check.due("driving: the box of the size 2", x.locker(0, 4), ends < 3 ? 0 : 1);
            Check.due("driving: parcels that lie there", x.locker(0, 5), ends < 3 ? 1 : 0);
            Check.due("driving: not a box of the size 0", x.locker(0, 2), 0);
            Check.due("driving: attempts", x.parcel(0, 5), 1);
        }
    }

    /** The same: the ends of days are those of each parcel, not of the locker. */
    private static void endsOfDaysOfEach() {
        LastMile x = Made.oneHome(0);
        x.addLocker(30, 51, 9, 9, 9);
        x.order(0, true, 0);
        for (int day = 0; day < 5; day++) {
            x.put(x.addParcel(0, 6, 0, 0, 1439), 0, 0);
            Check.due("driving: laid in on day " + day, x.drive(), 1);
            for (int i = 0; i <= day; i++) {
                boolean lies = day - i < 2;
                state("driving: at the end of day " + day, x, i, lies ? IN_LOCKER : GIVEN_UP, lies ? 0 : -1);
            }
            Check.due("driving: boxes of the size 1", x.locker(0, 3), 9 - Math.min(day + 1, 2));
        }
    }

    /** "The day is 1 greater". */
    private static void dayIsGreater() {
        LastMile x = new LastMile();
        for (int day = 0; day < 100; day++) {
            Check.due("promise 22: the day", x.count(0), day);
            Check.due("promise 23: nothing", x.drive(), 0);
        }
        Check.due("promise 24: looking ahead is no day", x.foresee(2), 0);
        Check.due("promise 22: the day", x.count(0), 100);
    }

    /** "Returns how many parcels were handed over, fetched, laid into lockers, or left with neighbours by vans". */
    private static void driveHowMany() {
        Check.due("promise 23: nothing at all", new LastMile().drive(), 0);
        LastMile x = Made.near(480, 1439);
        x.addParcel(0, 1, 0, 0, 1439);
        Check.due("promise 23: none on a route", x.drive(), 0);
        for (int kind = 0; kind <= 2; kind++) {
            LastMile y = Made.near(480, 1439);
            for (int i = 0; i < 12; i++) {
                y.put(y.addParcel(kind, 1, i % 2, 0, 1439), 0, i);
            }
            Check.due("promise 23: twelve of the kind " + kind, y.drive(), 12);
        }
        LastMile z = nobody(0, 1, 0);
        z.addLocker(30, 40, 1, 0, 0);
        z.order(0, true, 0);
        Check.due("promise 23: laid in, and fetched behind all vans, once", z.drive(), 1);
        LastMile w = nobody(0, 1, 0);
        w.addLocker(30, 51, 1, 0, 0);
        w.order(0, true, 0);
        w.drive();
        w.drive();
        Check.due("promise 23: given up behind all vans", w.drive(), 0);
    }

    /** "If what is not 0 to 2". */
    private static void foreseeWhat() {
        Check.range("promise 24: what", 0, 2, INDEX, LastMile::new, (x, v) -> x.foresee(v));
        Check.range("promise 24: what, of all there may be", 0, 2, INDEX, Made::full, (x, v) -> x.foresee(v));
    }

    /** "0 without vans". */
    private static void foreseeWithoutVans() {
        LastMile x = new LastMile();
        x.addHome(0, 0, 0);
        x.addParcel(0, 1, 0, 1439, 1439);
        for (int what = 0; what <= 2; what++) {
            Check.due("promise 24: without vans, foresee(" + what + ")", x.foresee(what), 0);
        }
        x.addVan(10, 0, 0);
        Check.due("promise 24: a van that comes back in the minute 0", x.foresee(2), 0);
        x.addVan(10, 1439, 1439);
        Check.due("promise 24: a van that comes back in the minute 1439", x.foresee(2), 1439);
    }

    /** "The latest minute in which a van would come back (also one without parcels)": the first, or the last van. */
    private static void foreseeLatest() {
        for (int latest = 0; latest < 4; latest++) {
            LastMile x = new LastMile();
            x.addHome(30, 40, ALL_DAY);
            for (int i = 0; i < 4; i++) {
                x.addVan(10, i == latest ? 500 : 476, 1439);
            }
            Check.due("promise 24: without parcels", x.foresee(2), 500);
            x.put(x.addParcel(0, 1, 0, 0, 1439), (latest + 1) % 4, 0);
            Check.due("promise 24: another one as late", x.foresee(2), 500);
            x.put(x.addParcel(0, 1, 0, 0, 1439), (latest + 1) % 4, 1);
            Check.due("promise 24: another one 4 minutes later", x.foresee(2), 504);
        }
    }

    /** "How many more parcels would be given up behind it than now": by attempts, and by ends of days. */
    private static void foreseeGivenUp() {
        LastMile x = Made.oneHome(0);
        x.addLocker(30, 51, 1, 0, 0);
        x.order(0, true, 0);
        for (int i = 0; i < 3; i++) {
            x.addParcel(i == 0 ? 0 : 2, 1, 0, 0, 1439);
        }
        for (int day = 0; day < 3; day++) {
            for (int i = day == 0 ? 0 : 1; i < 3; i++) {
                x.put(i, 0, 0);
            }
            Check.due("promise 24: on day " + day, x.foresee(1), day == 2 ? 3 : 0);
            x.drive();
        }
        Check.due("promise 24: all are given up", x.count(10), 3);
        Check.due("promise 24: none more than now", x.foresee(1), 0);
        LastMile y = nobody(2, 1, 0);
        y.drive();
        y.put(0, 0, 0);
        y.drive();
        Check.due("promise 24: on no route, with two attempts", y.foresee(1), 0);
    }

    /** "Returns this (nothing is changed)": also what is told of it on later days. */
    private static void foreseeChangesNothing() {
        LastMile x = Made.full();
        LastMile same = Made.full();
        for (int day = 0; day < 5; day++) {
            Check.due("promise 24: put in on day " + day, x.plan(), same.plan());
            for (int again = 0; again < 6; again++) {
                long before = x.digest();
                x.foresee(again % 3);
                Check.due("promise 24: nothing is changed on day " + day, x.digest(), before);
            }
            int done = x.foresee(0);
            Check.due("promise 24: what drive() would tell on day " + day, done, same.drive());
            Check.due("promise 24: what drive() tells on day " + day, x.drive(), done);
            Check.due("promise 24: as without looking ahead", x.digest(), same.digest());
        }
        LastMile far = nobody(0, 1, 0);
        far.addLocker(30, 51, 1, 0, 0);
        far.order(0, true, 0);
        for (int again = 0; again < 5; again++) {
            Check.due("promise 24: it would be laid in", far.foresee(0), 1);
            Check.due("promise 24: the box is free", far.locker(0, 2), 1);
        }
        Check.due("promise 24: it is laid in", far.drive(), 1);
        Check.due("promise 24: the second end of a day", far.foresee(1) + far.foresee(1) + far.foresee(1), 0);
        far.drive();
        state("promise 24: it lies there", far, 0, IN_LOCKER, 0);
    }

    private static void best(String what, int hours, int due) {
        LastMile x = new LastMile();
        x.addHome(0, 0, hours);
        Check.due("promise 25: " + what, x.hour(0), due);
    }

    /** "-1 without hours". */
    private static void hourWithout() {
        best("without hours", 0, -1);
        best("all hours", ALL_DAY, 0);
        for (int hour = 0; hour < 24; hour++) {
            best("only the hour " + hour, 1 << hour, hour);
            best("all hours from " + hour, ALL_DAY >> hour << hour, hour);
        }
    }

    /** "That in which most hours, beginning with it, ... are hours of it ..., of several the earliest". */
    private static void hourOfSeveral() {
        best("two hours, twice", 0b11011, 0);
        best("two hours, twice, not from 0", 0b110110, 1);
        best("one hour, and then two", 0b1101, 2);
        best("two hours, and then one", 0b1011, 0);
        best("every other hour", 0x555555, 0);
        best("every other hour from 1", 0xAAAAAA, 1);
        best("all but the hour 11", ALL_DAY ^ 1 << 11, 12);
        best("all but the hour 12", ALL_DAY ^ 1 << 12, 0);
        best("the first and the last hour", 0x800001, 0);
        best("one hour, and the last two", 0xC00001, 22);
    }

    /** "Without going on behind the hour 23". */
    private static void hourNotBehind23() {
        best("23 and 0, and two by day", 0x800001 | 3 << 12, 12);
        best("22 to 0, and two ahead of them", 0xC00001 | 3 << 12, 12);
        best("22, 23, 0 and 1", 0xC00003, 0);
        best("23, 0 and 1", 0x800003, 0);
    }

    /** "If there is no such home". */
    private static void hourNoSuchHome() {
        Check.range("promise 25: home of 16", 0, 15, INDEX, Made::full, (x, v) -> x.hour(v));
        LastMile x = new LastMile();
        Check.index("promise 25: there are none", x, () -> x.hour(0));
    }

    /** "0 if there are none". */
    private static void meanWithout() {
        LastMile x = new LastMile();
        Check.due("promise 26: no parcels", x.mean(), 0.0);
        Check.due("promise 26: it is not -0", 1 / x.mean() > 0);
        x.addHome(0, 0, 0);
        x.addParcel(0, 1, 0, 0, 0);
        Check.due("promise 26: no attempts", x.mean(), 0.0);
    }

    /** "All attempts of all parcels, divided by all parcels": from one of 30 to three of each. */
    private static void meanOfAll() {
        LastMile x = Made.oneHome(0);
        for (int i = 0; i < 30; i++) {
            x.addParcel(2, 1, 0, 0, 1439);
        }
        x.put(29, 0, 0);
        x.drive();
        Check.due("promise 26: one attempt of 30 parcels", x.mean(), 1.0 / 30);
        int attempts = 1;
        for (int day = 0; day < 9; day++) {
            attempts += x.plan();
            x.drive();
            Check.due("promise 26: attempts of 30 parcels", x.mean(), (double) attempts / 30);
        }
        Check.due("promise 26: three attempts each, all are given up", x.mean(), 3.0);
    }

    /** "A number d starts with 859"; without homes, lockers, parcels and vans. */
    private static void digestOfNothing() {
        long d = 859;
        for (int what = 0; what < 12; what++) {
            d = d * 31;
        }
        for (int hour = 0; hour < 24; hour++) {
            d = d * 31 + 10;
        }
        Check.due("promise 27: nothing at all", new LastMile().digest(), (d * 31 + 30) * 31 + 30);
    }

    /** "Wraps around as a 64-bit integer": by what numbers without an end would be, cut to 64 bits. */
    private static void digestWraps() {
        BigInteger d = BigInteger.valueOf(859);
        int[] due = new int[12 + 24 + 2 + 6];
        due[1] = 1;
        for (int i = 12; i < 36; i++) {
            due[i] = 30;
        }
        due[36] = 60;
        due[37] = 59;
        due[38] = 60;
        due[39] = 58;
        due[40] = ALL_DAY;
        LastMile x = new LastMile();
        x.setDepot(60, 59);
        x.addHome(60, 58, ALL_DAY);
        for (int hour = 0; hour < 24; hour++) {
            x.setRoads(hour, 30);
        }
        for (int number : due) {
            d = d.multiply(BigInteger.valueOf(31)).add(BigInteger.valueOf(number));
        }
        Check.due("promise 27: it would need more bits", d.bitLength() > 64);
        Check.due("promise 27: it wraps around", x.digest(), d.longValue());
    }

    /** "What count() tells, in its order; ... and the parcels of its route": of all there may be. */
    private static void digestOfAll() {
        for (int days = 0; days <= 2; days++) {
            // Each is asked for a part, since there are more than 512 calls in all.
            long d = withHomes(859, fullBehind(days));
            d = withLockersAndParcels(d, fullBehind(days));
            d = withVans(d, fullBehind(days));
            Check.due("promise 27: all there may be, behind " + days + " days", fullBehind(days).digest(), d);
        }
    }

    private static LastMile fullBehind(int days) {
        LastMile x = Made.full();
        for (int day = 0; day < days; day++) {
            x.plan();
            x.drive();
        }
        x.plan();
        return x;
    }

    private static long withHomes(long start, LastMile x) {
        long d = start;
        for (int what = 0; what < 12; what++) {
            d = d * 31 + x.count(what);
        }
        for (int hour = 0; hour < 24; hour++) {
            d = d * 31 + 10;
        }
        d = (d * 31 + 30) * 31 + 30;
        for (int home = 0; home < 16; home++) {
            for (int what = 0; what < 6; what++) {
                d = d * 31 + x.home(home, what);
            }
            d = d * 31 + 100 + home % 4;
            d = d * 31 + 200 + (home + 1) % 16;
            d = d * 31 + 200 + (home + 15) % 16;
        }
        return d;
    }

    private static long withLockersAndParcels(long start, LastMile x) {
        long d = start;
        for (int locker = 0; locker < 4; locker++) {
            for (int what = 0; what < 6; what++) {
                d = d * 31 + x.locker(locker, what);
            }
        }
        for (int parcel = 0; parcel < 30; parcel++) {
            for (int what = 0; what < 9; what++) {
                d = d * 31 + x.parcel(parcel, what);
            }
        }
        return d;
    }

    private static long withVans(long start, LastMile x) {
        long d = start;
        for (int van = 0; van < 4; van++) {
            for (int what = 0; what < 10; what++) {
                d = d * 31 + x.van(van, what);
            }
            for (int place = 0; place < x.van(van, 3); place++) {
                d = d * 31 + x.route(van, place);
            }
        }
        return d;
    }
}
