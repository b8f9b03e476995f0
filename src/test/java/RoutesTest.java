/** Promises 12 to 16: routes, and how they go as they are planned. */
public final class RoutesTest {
    private static final int ALL_DAY = 0xFFFFFF;
    private static final int[] WRONG = {-1, 99, Integer.MIN_VALUE, Integer.MAX_VALUE};

    public static void main(String[] args) {
        put();
        putWhatIsLess();
        putAThirteenth();
        putWhatDoesNotWait();
        take();
        route();
        van();
        lateAndOvertime();
        breaks();
        aBreakOnTheWayOut();
        breaksByTheRoads();
        loads();
        stop();
        behindMidnight();
        Check.end();
    }

    /** Two homes at the distance 10 of the depot, and 20 of one another; a van with the room 40. */
    private static LastMile twoHomes() {
        LastMile x = new LastMile();
        x.addHome(30, 40, ALL_DAY);
        x.addHome(40, 30, ALL_DAY);
        x.addVan(40, 480, 1000);
        x.addParcel(0, 20, 0, 0, 1439);
        x.addParcel(1, 20, 1, 0, 1439);
        x.addParcel(0, 1, 0, 0, 1439);
        x.addParcel(2, 40, 1, 0, 1439);
        return x;
    }

    private static void row(String what, LastMile x, int van, int... due) {
        Check.due(what + ": parcels of van " + van, x.van(van, 3), due.length);
        for (int i = 0; i < due.length && i < x.van(van, 3); i++) {
            Check.due(what + ": route(" + van + ", " + i + ")", x.route(van, i), due[i]);
            Check.due(what + ": the van of " + due[i], x.parcel(due[i], 7), van);
        }
    }

    private static void put() {
        LastMile x = twoHomes();
        Check.due("promise 12: the first", x.put(0, 0, 0), 20);
        Check.due("promise 12: ahead of it", x.put(1, 0, 0), 20);
        row("promise 12", x, 0, 1, 0);
        Check.state("promise 12: it is on this route", x, () -> x.put(0, 0, 0));
        Check.state("promise 12: too much at the depot", x, () -> x.put(2, 0, 0));
        Check.state("promise 12: too much ahead of all", x, () -> x.put(3, 0, 0));
        Check.state("promise 12: too much on the way", x, () -> x.put(3, 0, 1));
        Check.due("promise 12: as much as the room, behind all", x.put(3, 0, 2), 20);
        row("promise 12", x, 0, 1, 0, 3);
        x.addVan(10, 480, 1000);
        Check.state("promise 12: it is on another route", x, () -> x.put(0, 1, 0));
        Check.due("promise 12: the least room", x.put(2, 1, 0), 20);
        for (int wrong : WRONG) {
            Check.index("promise 12: parcel " + wrong, x, () -> x.put(wrong, 0, 0));
            Check.index("promise 12: van " + wrong, x, () -> x.put(0, wrong, 0));
            Check.index("promise 12: place " + wrong + " ahead of the rest", x, () -> x.put(0, 0, wrong));
        }
        Check.index("promise 12: parcel 4", x, () -> x.put(4, 0, 0));
        Check.index("promise 12: van 2", x, () -> x.put(0, 2, 0));
        Check.index("promise 12: place 4", x, () -> x.put(0, 0, 4));
        Check.index("promise 12: place 2 of the other one", x, () -> x.put(0, 1, 2));
    }

    /** Waiting at the depot till the roads are better makes the cost less. */
    private static LastMile betterLater() {
        LastMile x = new LastMile();
        x.setRoads(8, 30);
        x.setRoads(9, 5);
        x.addHome(30, 40, ALL_DAY);
        x.addHome(30, 30, ALL_DAY);
        x.addVan(40, 480, 1000);
        x.addParcel(0, 1, 0, 0, 1439);
        x.addParcel(0, 1, 1, 540, 1439);
        return x;
    }

    private static void putWhatIsLess() {
        LastMile x = betterLater();
        Check.due("promise 12: slow roads", x.put(0, 0, 0), 60);
        Check.due("promise 12: behind it", x.adds(1, 0, 1), 0);
        Check.due("promise 12: less", x.put(1, 0, 0), -50);
        Check.due("promise 13: greater", x.take(1), -50);
        Check.due("promise 13: as before", x.van(0, 4), 60);
    }

    private static void putAThirteenth() {
        LastMile x = new LastMile();
        x.addHome(30, 31, ALL_DAY);
        x.addVan(200, 0, 1439);
        x.addVan(200, 0, 1439);
        for (int i = 0; i < 14; i++) {
            x.addParcel(0, 1, 0, 0, 1439);
        }
        for (int i = 0; i < 12; i++) {
            Check.due("promise 12: parcel " + i, x.put(i, 0, i), i == 0 ? 2 : 0);
        }
        for (int place = 0; place <= 12; place++) {
            int where = place;
            Check.state("promise 12: a thirteenth at " + place, x, () -> x.put(12, 0, where));
            Check.due("promise 17: a thirteenth at " + place, x.adds(12, 0, place), 1000000);
        }
        Check.index("promise 12: place 13", x, () -> x.put(12, 0, 13));
        Check.index("promise 17: place 13", x, () -> x.adds(12, 0, 13));
        Check.due("promise 18: on the other one", x.cheapest(12), 16);
        Check.due("promise 20: twelve", x.improve(0), 0);
        Check.due("promise 21: twelve", x.move(), 0);
        Check.due("promise 19: on the other one", x.plan(), 2);
        row("promise 19", x, 1, 13, 12);
    }

    private static void putWhatDoesNotWait() {
        LastMile x = twoHomes();
        x.put(0, 0, 0);
        x.drive();
        Check.state("promise 12: it was handed over", x, () -> x.put(0, 0, 0));
        Check.due("promise 18: it was handed over", x.cheapest(0), -1);
        Check.due("promise 17: it was handed over", x.adds(0, 0, 0), 20);
    }

    private static void take() {
        LastMile x = twoHomes();
        x.put(0, 0, 0);
        x.put(1, 0, 1);
        x.put(3, 0, 2);
        Check.due("promise 13: out of the middle", x.take(1), 0);
        row("promise 13", x, 0, 0, 3);
        Check.due("promise 13: it is on none", x.parcel(1, 7), -1);
        Check.state("promise 13: it is on none", x, () -> x.take(1));
        Check.state("promise 13: it never was on one", x, () -> x.take(2));
        Check.due("promise 13: the first", x.take(0), 20);
        row("promise 13", x, 0, 3);
        Check.due("promise 13: the last", x.take(3), 20);
        row("promise 13", x, 0);
        Check.due("promise 13: and in again", x.put(1, 0, 0), 20);
        x.drive();
        Check.state("promise 13: behind the day", x, () -> x.take(1));
        for (int wrong : WRONG) {
            Check.index("promise 13: parcel " + wrong, x, () -> x.take(wrong));
        }
        Check.index("promise 13: parcel 4", x, () -> x.take(4));
    }

    private static void route() {
        LastMile x = twoHomes();
        x.addVan(40, 480, 1000);
        Check.index("promise 14: an empty route", x, () -> x.route(0, 0));
        x.put(2, 0, 0);
        x.put(0, 0, 0);
        x.put(3, 1, 0);
        row("promise 14", x, 0, 0, 2);
        row("promise 14", x, 1, 3);
        for (int wrong : WRONG) {
            Check.index("promise 14: van " + wrong, x, () -> x.route(wrong, 0));
            Check.index("promise 14: place " + wrong, x, () -> x.route(0, wrong));
        }
        Check.index("promise 14: van 2", x, () -> x.route(2, 0));
        Check.index("promise 14: place 2", x, () -> x.route(0, 2));
        Check.index("promise 14: place 1 of the other one", x, () -> x.route(1, 1));
    }

    private static void facts(String what, LastMile x, int van, int... due) {
        for (int i = 0; i < 10; i++) {
            Check.due(what + ": van(" + van + ", " + i + ")", x.van(van, i), due[i]);
        }
    }

    private static void van() {
        LastMile x = twoHomes();
        facts("promise 15: an empty route", x, 0, 40, 480, 1000, 0, 0, 0, 0, 480, 0, 0);
        x.put(0, 0, 0);
        x.put(1, 0, 1);
        facts("promise 15", x, 0, 40, 480, 1000, 2, 40, 40, 0, 480 + 40 + 8, 0, 40);
        for (int wrong : WRONG) {
            Check.index("promise 15: van " + wrong, x, () -> x.van(wrong, 0));
            Check.index("promise 15: what " + wrong, x, () -> x.van(0, wrong));
        }
        Check.index("promise 15: van 1", x, () -> x.van(1, 0));
        Check.index("promise 15: what 10", x, () -> x.van(0, 10));
    }

    private static void lateAndOvertime() {
        LastMile x = new LastMile();
        x.addHome(30, 40, ALL_DAY);
        x.addHome(40, 30, ALL_DAY);
        x.addVan(40, 480, 520);
        x.addParcel(0, 20, 0, 0, 485);
        x.addParcel(0, 20, 1, 0, 490);
        Check.due("promise 12: 5 minutes late", x.put(0, 0, 0), 20 + 15);
        Check.due("promise 15: back ahead of the end", x.van(0, 7), 504);
        Check.due("promise 12: 24 minutes late, 8 behind the end", x.put(1, 0, 1), 20 + 72 + 16);
        facts("promise 15", x, 0, 40, 480, 520, 2, 143, 40, 29, 528, 0, 40);
        Check.due("promise 16: late", x.stop(0, 0, 1), 5);
        Check.due("promise 16: late", x.stop(0, 1, 1), 24);
        x.addVan(40, 480, 504);
        x.addParcel(0, 20, 1, 490, 490);
        Check.due("promise 12: back in the minute of the end, neither early nor late", x.put(2, 1, 0), 20);
        Check.due("promise 16: not late", x.stop(1, 0, 1), 0);
    }

    /** A stop in the minute from; the home is at the distance 60 of the depot. */
    private static LastMile oneStop(int from) {
        LastMile x = new LastMile();
        x.addHome(60, 60, ALL_DAY);
        x.addVan(40, 0, 1439);
        x.addParcel(0, 1, 0, from, 1439);
        return x;
    }

    private static void breaks() {
        LastMile x = oneStop(176);
        x.put(0, 0, 0);
        facts("promise 15: 240 minutes of work", x, 0, 40, 0, 1439, 1, 120, 120, 0, 240, 0, 1);
        x = oneStop(177);
        x.put(0, 0, 0);
        facts("promise 15: 241 minutes of work", x, 0, 40, 0, 1439, 1, 120, 120, 0, 271, 1, 1);
        x.addParcel(0, 1, 0, 0, 1439);
        x.put(1, 0, 1);
        Check.due("promise 15: no break ahead of going nowhere, at 181", x.stop(0, 1, 0), 181);
        Check.due("promise 15: 185 + 30 + 60", x.van(0, 7), 275);
        x.addParcel(0, 1, 0, 300, 1439);
        x.put(2, 0, 2);
        Check.due("promise 15: 300 + 4 + 30 + 60", x.van(0, 7), 394);
        x.addParcel(0, 1, 0, 0, 1439);
        x.put(3, 0, 3);
        Check.due("promise 16: a break ahead of going nowhere", x.stop(0, 3, 0), 334);
        facts("promise 15: work is reckoned from the break", x, 0, 40, 0, 1439, 4, 120, 120, 0, 398, 1, 4);
    }

    private static void aBreakOnTheWayOut() {
        LastMile x = new LastMile();
        for (int hour = 0; hour < 24; hour++) {
            x.setRoads(hour, 30);
        }
        x.setDepot(0, 0);
        x.addHome(60, 21, ALL_DAY);
        x.addHome(60, 20, ALL_DAY);
        x.addVan(40, 0, 1439);
        x.addParcel(0, 1, 0, 0, 1439);
        x.addParcel(0, 1, 1, 0, 1439);
        x.put(1, 0, 0);
        facts("promise 15: a way of 240 minutes, and one behind a break", x, 0,
            40, 0, 1439, 1, 480, 480, 0, 514, 1, 1);
        x.take(1);
        x.put(0, 0, 0);
        facts("promise 15: a way of 243 minutes", x, 0, 40, 0, 1439, 1, 486, 486, 0, 550, 2, 1);
        Check.due("promise 16: behind a break", x.stop(0, 0, 0), 273);
    }

    /** Whether there is a break goes by the way as it would begin now; the way itself begins behind the break. */
    private static void breaksByTheRoads() {
        LastMile x = oneStop(205);
        x.setRoads(3, 5);
        x.put(0, 0, 0);
        Check.due("promise 15: 209 + 30, without a break", x.van(0, 7), 239);
        x = oneStop(210);
        x.setRoads(3, 30);
        x.setRoads(4, 5);
        x.put(0, 0, 0);
        Check.due("promise 15: 214 + 30 + 30", x.van(0, 7), 274);
        Check.due("promise 15: going", x.van(0, 5), 60 + 30);
        Check.due("promise 15: a break", x.van(0, 8), 1);
    }

    private static void loads() {
        LastMile x = new LastMile();
        x.addHome(30, 31, ALL_DAY);
        x.addVan(60, 480, 1000);
        x.addParcel(0, 10, 0, 0, 1439);
        x.addParcel(1, 15, 0, 0, 1439);
        x.addParcel(2, 35, 0, 0, 1439);
        x.addParcel(2, 16, 0, 0, 1439);
        x.put(0, 0, 0);
        x.put(1, 0, 1);
        x.put(2, 0, 0);
        Check.due("promise 15: the greatest load, as much as the room", x.van(0, 9), 60);
        Check.due("promise 16: the load behind it", x.stop(0, 0, 2), 60);
        Check.due("promise 16: the load behind it", x.stop(0, 1, 2), 50);
        Check.due("promise 16: the load behind it", x.stop(0, 2, 2), 35);
        Check.state("promise 12: 60 + 16", x, () -> x.put(3, 0, 1));
        Check.state("promise 12: 50 + 16", x, () -> x.put(3, 0, 2));
        x.put(3, 0, 3);
        Check.due("promise 16: the load behind it", x.stop(0, 3, 2), 51);
        x.take(2);
        Check.due("promise 15: the greatest load, at the depot", x.van(0, 9), 25);
        x.take(0);
        Check.due("promise 15: the greatest load, at the end", x.van(0, 9), 16);
    }

    private static void stop() {
        LastMile x = new LastMile();
        x.addHome(30, 40, 1 << 8);
        x.addHome(30, 50, 1 << 9);
        x.addVan(100, 480, 1000);
        x.addParcel(0, 7, 0, 539, 600);
        x.addParcel(0, 8, 0, 540, 600);
        x.addParcel(2, 9, 1, 0, 500);
        for (int i = 0; i < 3; i++) {
            x.put(i, 0, i);
        }
        int[][] due = {{539, 0, 8, 1}, {543, 0, 0, 0}, {557, 57, 9, 1}};
        for (int place = 0; place < 3; place++) {
            for (int what = 0; what < 4; what++) {
                Check.due("promise 16: stop(0, " + place + ", " + what + ")", x.stop(0, place, what), due[place][what]);
            }
        }
        for (int wrong : WRONG) {
            Check.index("promise 16: van " + wrong, x, () -> x.stop(wrong, 0, 0));
            Check.index("promise 16: place " + wrong, x, () -> x.stop(0, wrong, 0));
            Check.index("promise 16: what " + wrong, x, () -> x.stop(0, 0, wrong));
        }
        Check.index("promise 16: van 1", x, () -> x.stop(1, 0, 0));
        Check.index("promise 16: place 3", x, () -> x.stop(0, 3, 0));
        Check.index("promise 16: what 4", x, () -> x.stop(0, 0, 4));
    }

    private static void behindMidnight() {
        LastMile x = new LastMile();
        x.setRoads(0, 30);
        x.addHome(30, 40, 1);
        x.addVan(100, 1430, 1439);
        x.addParcel(0, 7, 0, 1000, 1435);
        Check.due("promise 12: 10 + 30, 5 late, 35 behind the end", x.put(0, 0, 0), 40 + 15 + 70);
        Check.due("promise 16: behind midnight", x.stop(0, 0, 0), 1440);
        Check.due("promise 16: in the hour 0", x.stop(0, 0, 3), 1);
        Check.due("promise 15: back by the roads of the hour 0", x.van(0, 7), 1474);
    }
}
