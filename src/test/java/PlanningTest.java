/** Promises 17 to 22: planning. */
public final class PlanningTest {
    private static final int ALL_DAY = 0xFFFFFF;
    private static final int[] WRONG = {-1, 99, Integer.MIN_VALUE, Integer.MAX_VALUE};

    public static void main(String[] args) {
        adds();
        addsOnceMore();
        cheapest();
        cheapestNowhere();
        plan();
        planByRoom();
        improve();
        improveEndsFirst();
        improveTheMiddle();
        improveOnlyWhatIsPossible();
        move();
        moveToAnother();
        moveOnlyWhatIsPossible();
        count();
        Check.end();
    }

    /** Homes at (40, 30), (50, 30), (60, 30), a parcel of the volume 10 for each. */
    private static LastMile inALine() {
        LastMile x = new LastMile();
        for (int i = 0; i < 3; i++) {
            x.addHome(40 + 10 * i, 30, ALL_DAY);
            x.addParcel(0, 10, i, 0, 1439);
        }
        x.addVan(40, 480, 1000);
        return x;
    }

    private static void row(String what, LastMile x, int van, int... due) {
        Check.due(what + ": parcels of van " + van, x.van(van, 3), due.length);
        for (int i = 0; i < due.length && i < x.van(van, 3); i++) {
            Check.due(what + ": route(" + van + ", " + i + ")", x.route(van, i), due[i]);
            Check.due(what + ": the van of " + due[i], x.parcel(due[i], 7), van);
        }
    }

    private static void adds() {
        LastMile x = inALine();
        x.put(1, 0, 0);
        long before = x.digest();
        Check.due("promise 17: on the way", x.adds(0, 0, 0), 0);
        Check.due("promise 17: behind it, on the way back", x.adds(0, 0, 1), 0);
        Check.due("promise 17: farther", x.adds(2, 0, 0), 20);
        Check.due("promise 17: farther", x.adds(2, 0, 1), 20);
        x.addVan(10, 480, 481);
        Check.due("promise 17: 23 minutes behind the end", x.adds(0, 1, 0), 20 + 46);
        x.addParcel(0, 11, 0, 0, 1439);
        Check.due("promise 17: too much for the room", x.adds(3, 1, 0), 1000000);
        Check.due("promise 17: not for the other one", x.adds(3, 0, 1), 0);
        for (int wrong : WRONG) {
            Check.index("promise 17: parcel " + wrong, x, () -> x.adds(wrong, 0, 0));
            Check.index("promise 17: van " + wrong, x, () -> x.adds(0, wrong, 0));
            Check.index("promise 17: place " + wrong, x, () -> x.adds(0, 0, wrong));
        }
        Check.index("promise 17: parcel 4", x, () -> x.adds(4, 0, 0));
        Check.index("promise 17: van 2", x, () -> x.adds(0, 2, 0));
        Check.index("promise 17: place 2", x, () -> x.adds(0, 0, 2));
        Check.due("promise 17: nothing is changed", x.take(1), 40);
        Check.due("promise 17: something is changed by take()", before != x.digest());
    }

    private static void addsOnceMore() {
        LastMile x = inALine();
        x.put(0, 0, 0);
        x.put(1, 0, 1);
        long before = x.digest();
        Check.due("promise 17: once more beside it", x.adds(0, 0, 0), 0);
        Check.due("promise 17: once more on the way back", x.adds(0, 0, 2), 0);
        x.addParcel(0, 21, 0, 0, 1439);
        Check.due("promise 17: 41 at the depot", x.adds(3, 0, 0), 1000000);
        x.addVan(40, 480, 1000);
        Check.due("promise 17: on another route", x.adds(1, 1, 0), 40);
        Check.due("promise 17: it stays on its own", x.parcel(1, 7), 0);
        LastMile same = inALine();
        same.put(0, 0, 0);
        same.put(1, 0, 1);
        Check.due("promise 17: nothing is changed", before, same.digest());
        same.adds(0, 0, 0);
        Check.due("promise 17: nothing is changed", before, same.digest());
    }

    private static void cheapest() {
        LastMile x = inALine();
        x.addVan(40, 480, 1000);
        Check.due("promise 18: of equal vans the first", x.cheapest(0), 0);
        x.put(1, 1, 0);
        Check.due("promise 18: on the way of van 1, the first place", x.cheapest(0), 16);
        x.addParcel(0, 1, 2, 0, 470);
        x.put(2, 1, 1);
        Check.due("promise 18: 44 minutes late on the way, or 40 by 60 minutes of going", x.cheapest(3), 17);
        LastMile y = inALine();
        y.addParcel(0, 1, 0, 600, 1439);
        y.put(1, 0, 0);
        y.put(2, 0, 1);
        y.addParcel(0, 1, 1, 480, 500);
        y.put(0, 0, 2);
        Check.due("promise 18: ahead of all, so that it is not late", y.cheapest(4), 0);
        long before = y.digest();
        y.addVan(40, 480, 1000);
        LastMile z = inALine();
        z.addParcel(0, 1, 0, 600, 1439);
        z.put(1, 0, 0);
        z.put(2, 0, 1);
        z.addParcel(0, 1, 1, 480, 500);
        z.put(0, 0, 2);
        Check.due("promise 18: nothing is changed", before, z.digest());
        LastMile w = inALine();
        w.addHome(20, 30, ALL_DAY);
        w.addParcel(0, 1, 3, 0, 1439);
        w.addParcel(0, 1, 0, 0, 502);
        w.put(3, 0, 0);
        w.put(2, 0, 1);
        Check.due("promise 18: ahead of the far one", w.cheapest(0), 1);
        Check.due("promise 18: ahead of both, at 490", w.cheapest(4), 0);
    }

    private static void cheapestNowhere() {
        LastMile x = inALine();
        Check.due("promise 18: somewhere", x.cheapest(2), 0);
        x.put(2, 0, 0);
        Check.due("promise 18: it is on a route", x.cheapest(2), -1);
        x.addParcel(0, 31, 0, 0, 1439);
        Check.due("promise 18: too much for the room", x.cheapest(3), -1);
        x.addParcel(2, 31, 0, 0, 1439);
        Check.due("promise 18: only behind the other one", x.cheapest(4), 1);
        x.drive();
        Check.due("promise 18: it was handed over", x.cheapest(2), -1);
        LastMile y = new LastMile();
        y.addHome(30, 30, 0);
        y.addParcel(0, 1, 0, 0, 0);
        Check.due("promise 18: no vans", y.cheapest(0), -1);
        Check.due("promise 19: no vans", y.plan(), 0);
        for (int wrong : WRONG) {
            Check.index("promise 18: parcel " + wrong, x, () -> x.cheapest(wrong));
        }
        Check.index("promise 18: parcel 5", x, () -> x.cheapest(5));
    }

    private static void plan() {
        LastMile x = inALine();
        Check.due("promise 19: all", x.plan(), 3);
        // 0 makes 20; then 1 ahead of it 20 more, and 2 ahead of both another 20.
        row("promise 19", x, 0, 2, 1, 0);
        Check.due("promise 19: none is left", x.plan(), 0);
        x.take(1);
        Check.due("promise 19: the one that was taken", x.plan(), 1);
        row("promise 19", x, 0, 1, 2, 0);
        x.drive();
        Check.due("promise 19: none waits", x.plan(), 0);
        Check.due("promise 19: no more routes", x.van(0, 3), 0);
    }

    private static void planByRoom() {
        LastMile x = new LastMile();
        x.addHome(60, 30, ALL_DAY);
        x.addHome(40, 30, ALL_DAY);
        x.addHome(30, 40, ALL_DAY);
        x.addVan(10, 480, 1000);
        for (int i = 0; i < 3; i++) {
            x.addParcel(0, 10, i, 0, 1439);
        }
        Check.due("promise 19: one has room", x.plan(), 1);
        row("promise 19: the least greater, of several the smallest number", x, 0, 1);
        x.addVan(25, 480, 485);
        Check.due("promise 19: the others on another van", x.plan(), 2);
        row("promise 19: the first stays", x, 0, 1);
        Check.due("promise 19: the others", x.van(1, 3), 2);
        Check.due("promise 22: none is on no route", x.count(6), 0);
    }

    private static void improve() {
        LastMile x = inALine();
        x.put(1, 0, 0);
        x.put(0, 0, 1);
        x.put(2, 0, 2);
        Check.due("promise 15: cost", x.van(0, 4), 80);
        Check.due("promise 20: less by 20", x.improve(0), 20);
        row("promise 20: of several the one that begins first", x, 0, 0, 1, 2);
        Check.due("promise 20: nothing is better", x.improve(0), 0);
        row("promise 20: nothing is done", x, 0, 0, 1, 2);
        x.take(0);
        x.take(1);
        Check.due("promise 20: one parcel", x.improve(0), 0);
        row("promise 20: one parcel", x, 0, 2);
        x.take(2);
        Check.due("promise 20: no parcel", x.improve(0), 0);
        for (int wrong : WRONG) {
            Check.index("promise 20: van " + wrong, x, () -> x.improve(wrong));
        }
        Check.index("promise 20: van 1", x, () -> x.improve(1));
    }

    /** To turn round the first two, or all three, saves the same. */
    private static void improveEndsFirst() {
        LastMile x = new LastMile();
        x.addHome(20, 30, ALL_DAY);
        x.addHome(40, 30, ALL_DAY);
        x.addHome(30, 30, ALL_DAY);
        x.addVan(40, 480, 1000);
        x.addParcel(0, 1, 0, 0, 1439);
        x.addParcel(0, 1, 1, 0, 500);
        x.addParcel(0, 1, 2, 0, 1439);
        for (int i = 0; i < 3; i++) {
            x.put(i, 0, i);
        }
        Check.due("promise 15: 14 minutes late", x.van(0, 4), 40 + 42);
        Check.due("promise 20: 14 minutes less late", x.improve(0), 42);
        row("promise 20: of these the one that ends first", x, 0, 1, 0, 2);
    }

    /** A part in the middle of a longer route; each of the others is where it was. */
    private static void improveTheMiddle() {
        LastMile x = new LastMile();
        int[] places = {35, 50, 45, 40, 55, 60};
        x.addVan(40, 480, 1000);
        for (int i = 0; i < places.length; i++) {
            x.addHome(places[i], 30, ALL_DAY);
            x.addParcel(0, 1, i, 0, 1439);
            x.put(i, 0, i);
        }
        Check.due("promise 15: cost", x.van(0, 4), 5 + 15 + 5 + 5 + 15 + 5 + 30);
        Check.due("promise 20: the part from 1 to 3", x.improve(0), 20);
        row("promise 20: the part from 1 to 3", x, 0, 0, 3, 2, 1, 4, 5);
    }

    private static void improveOnlyWhatIsPossible() {
        for (int room = 40; room <= 80; room += 40) {
            LastMile x = new LastMile();
            x.addHome(50, 30, ALL_DAY);
            x.addHome(40, 30, ALL_DAY);
            x.addVan(room, 480, 1000);
            x.addParcel(0, 40, 0, 0, 1439);
            x.addParcel(2, 40, 1, 0, 490);
            x.put(0, 0, 0);
            x.put(1, 0, 1);
            Check.due("promise 15: 24 minutes late", x.van(0, 4), 40 + 72);
            Check.due("promise 20: room " + room, x.improve(0), room == 40 ? 0 : 72);
            Check.due("promise 20: room " + room, x.route(0, 0), room == 40 ? 0 : 1);
        }
    }

    private static void move() {
        LastMile x = inALine();
        Check.due("promise 21: no parcel on a route", x.move(), 0);
        x.put(1, 0, 0);
        x.put(0, 0, 1);
        x.put(2, 0, 2);
        Check.due("promise 21: less by 20", x.move(), 20);
        row("promise 21: the smallest number, the least place", x, 0, 0, 1, 2);
        Check.due("promise 21: nothing is better", x.move(), 0);
        row("promise 21: nothing is done", x, 0, 0, 1, 2);
        placesWithoutIt();
    }

    /** Only to put 0 between 1 and 2 is best: this is the place 1 of the route without it. */
    private static void placesWithoutIt() {
        LastMile x = new LastMile();
        x.addHome(50, 30, ALL_DAY);
        x.addHome(40, 30, ALL_DAY);
        x.addHome(60, 30, ALL_DAY);
        x.addVan(40, 480, 1000);
        x.addParcel(0, 1, 0, 0, 1439);
        x.addParcel(0, 1, 1, 0, 490);
        x.addParcel(0, 1, 2, 518, 518);
        for (int i = 0; i < 3; i++) {
            x.put(i, 0, i);
        }
        Check.due("promise 15: the second 24 late, the third 20", x.van(0, 4), 80 + 72 + 60);
        int saved = x.move();
        row("promise 21: place 1 of the route without it", x, 0, 1, 0, 2);
        Check.due("promise 21: saved", saved, 212 - x.van(0, 4));
        Check.due("promise 15: none is late", x.van(0, 4), 60);
    }

    private static LastMile twoLate(int room) {
        LastMile x = new LastMile();
        x.addHome(40, 30, ALL_DAY);
        x.addHome(20, 30, ALL_DAY);
        x.addVan(40, 480, 1000);
        x.addVan(room, 480, 1000);
        x.addParcel(0, 20, 0, 0, 490);
        x.addParcel(0, 15, 1, 0, 490);
        x.put(0, 0, 0);
        x.put(1, 0, 1);
        return x;
    }

    private static void moveToAnother() {
        LastMile x = twoLate(40);
        Check.due("promise 22: 24 minutes late", x.count(11), 40 + 72);
        Check.due("promise 21: not late", x.move(), 72);
        row("promise 21: the smallest number", x, 0, 1);
        row("promise 21: to another van", x, 1, 0);
        Check.due("promise 22: cost of all", x.count(11), 40);
        Check.due("promise 21: nothing is better", x.move(), 0);
        x.take(0);
        x.take(1);
        x.put(0, 1, 0);
        Check.due("promise 21: the same on another van is not less", x.move(), 0);
        row("promise 21: it stays", x, 1, 0);
    }

    private static void moveOnlyWhatIsPossible() {
        LastMile x = twoLate(19);
        Check.due("promise 21: the other one has room", x.move(), 72);
        row("promise 21: the greater number", x, 0, 0);
        row("promise 21: the greater number", x, 1, 1);
        x = twoLate(14);
        Check.due("promise 21: there is no room", x.move(), 0);
        row("promise 21: there is no room", x, 0, 0, 1);
        LastMile y = twoLate(40);
        y.addParcel(0, 1, 0, 0, 1439);
        Check.due("promise 21: what is on no route is not moved", y.move(), 72);
        Check.due("promise 21: it is on none", y.parcel(2, 7), -1);
    }

    private static void count() {
        LastMile x = new LastMile();
        x.addHome(30, 40, 0);
        x.addHome(30, 42, ALL_DAY);
        x.addLocker(30, 27, 1, 1, 1);
        x.order(0, true, 0);
        x.order(0, false, 1);
        x.addVan(100, 480, 1000);
        x.addVan(100, 480, 1000);
        x.addVan(100, 480, 1000);
        x.addParcel(0, 10, 0, 0, 1439);
        x.addParcel(1, 10, 0, 0, 1439);
        x.addParcel(2, 10, 0, 0, 1439);
        x.addParcel(2, 10, 1, 0, 1439);
        x.addParcel(0, 10, 1, 0, 1439);
        x.addParcel(0, 10, 1, 0, 1439);
        counts(x, 0, 2, 1, 3, 6, 6, 6, 0, 0, 0, 0, 0);
        for (int i = 0; i < 5; i++) {
            x.put(i, i % 2, 0);
        }
        counts(x, 0, 2, 1, 3, 6, 6, 1, 0, 0, 0, 0, 48);
        x.drive();
        counts(x, 1, 2, 1, 3, 6, 2, 2, 2, 1, 1, 0, 0);
        for (int i = 0; i < 2; i++) {
            x.put(2, 2, 0);
            counts(x, 1 + i, 2, 1, 3, 6, 2, 1, 2, 1, 1, 0, 20);
            x.drive();
        }
        counts(x, 3, 2, 1, 3, 6, 1, 1, 2, 0, 1, 2, 0);
        for (int wrong : WRONG) {
            Check.index("promise 22: what " + wrong, x, () -> x.count(wrong));
        }
        Check.index("promise 22: what 12", x, () -> x.count(12));
    }

    private static void counts(LastMile x, int... due) {
        for (int what = 0; what < 12; what++) {
            Check.due("promise 22: on day " + due[0] + ", count(" + what + ")", x.count(what), due[what]);
        }
    }
}
