/** Objects that the tests of the edges begin with. */
final class Made {
    static final int ALL_DAY = 0xFFFFFF;

    private Made() {
    }

    /** The depot at (0, 0), each hour's roads as slow as this, and home 0, where somebody is, at this distance. */
    static LastMile away(int distance, int slow) {
        LastMile x = new LastMile();
        for (int hour = 0; hour < 24; hour++) {
            x.setRoads(hour, slow);
        }
        x.setDepot(0, 0);
        int east = Math.min(distance, 60);
        x.addHome(east, distance - east, ALL_DAY);
        return x;
    }

    /** Van 0 with this shift; home 0 at the depot and home 1 at the distance 10 of it; somebody is in both. */
    static LastMile near(int start, int end) {
        LastMile x = new LastMile();
        x.addHome(30, 30, ALL_DAY);
        x.addHome(30, 40, ALL_DAY);
        x.addVan(200, start, end);
        return x;
    }

    /** Home 0 at (30, 40), with these hours; van 0 from 480 till 1000. */
    static LastMile oneHome(int hours) {
        LastMile x = new LastMile();
        x.addHome(30, 40, hours);
        x.addVan(200, 480, 1000);
        return x;
    }

    /** As many as there may be of all: homes, each with its orders, lockers, vans and parcels, none on a route. */
    static LastMile full() {
        LastMile x = new LastMile();
        for (int i = 0; i < 16; i++) {
            x.addHome(30 + i % 4, 30 + i / 4, i % 2 == 0 ? 0 : ALL_DAY);
        }
        for (int i = 0; i < 4; i++) {
            x.addLocker(20 + 5 * i, 35, i, 9 - i, 9);
            x.addVan(200 - i, 400 + 20 * i, 1439 - i);
        }
        for (int i = 0; i < 16; i++) {
            x.order(i, true, i % 4);
            x.order(i, false, (i + 1) % 16);
            x.order(i, false, (i + 15) % 16);
        }
        for (int i = 0; i < 30; i++) {
            x.addParcel(i % 3, 1 + i % 16, i % 16, 10 * i, 1000 + i);
        }
        return x;
    }

    /** Adds a small parcel of the kind 0, and puts it behind all of van 0; answers by how much the cost is greater. */
    static int stopAt(LastMile x, int home, int from, int till) {
        return x.put(x.addParcel(0, 1, home, from, till), 0, x.van(0, 3));
    }

    /** The van's route is these parcels, in this order. */
    static void row(String what, LastMile x, int van, int... due) {
        Check.due(what + ": parcels of van " + van, x.van(van, 3), due.length);
        for (int i = 0; i < due.length && i < x.van(van, 3); i++) {
            Check.due(what + ": route(" + van + ", " + i + ")", x.route(van, i), due[i]);
            Check.due(what + ": the van of " + due[i], x.parcel(due[i], 7), van);
        }
    }
}
