import java.util.ArrayList;
import java.util.Collections;
import java.util.List;

/**
 * The document once more, as plainly as can be and without a thought of speed: what changes nothing is tried on a
 * copy, and routes are tried by really putting, taking and turning.
 */
final class Model {
    static final class Home {
        int x, y, hours;
        List<int[]> orders = new ArrayList<>(); // {1 for a locker, which}
    }

    static final class Locker {
        int x, y;
        int[] free = new int[3];
    }

    static final class Parcel {
        int kind, volume, home, from, till, attempts, state, van = -1, where = -1, box, ends;
    }

    static final class Van {
        int room, start, end;
        List<Integer> route = new ArrayList<>();
    }

    int[] roads = new int[24];
    int depotX = 30, depotY = 30, day = 0;
    List<Home> homes = new ArrayList<>();
    List<Locker> lockers = new ArrayList<>();
    List<Parcel> parcels = new ArrayList<>();
    List<Van> vans = new ArrayList<>();
    int latest; // the latest minute in which a van came back on the last drive

    Model() {
        for (int i = 0; i < 24; i++) roads[i] = 10;
    }

    Model copy() {
        Model m = new Model();
        m.roads = roads.clone();
        m.depotX = depotX;
        m.depotY = depotY;
        m.day = day;
        m.homes = homes;
        for (Locker l : lockers) {
            Locker c = new Locker();
            c.x = l.x;
            c.y = l.y;
            c.free = l.free.clone();
            m.lockers.add(c);
        }
        for (Parcel p : parcels) {
            Parcel c = new Parcel();
            c.kind = p.kind;
            c.volume = p.volume;
            c.home = p.home;
            c.from = p.from;
            c.till = p.till;
            c.attempts = p.attempts;
            c.state = p.state;
            c.van = p.van;
            c.where = p.where;
            c.box = p.box;
            c.ends = p.ends;
            m.parcels.add(c);
        }
        for (Van v : vans) {
            Van c = new Van();
            c.room = v.room;
            c.start = v.start;
            c.end = v.end;
            c.route = new ArrayList<>(v.route);
            m.vans.add(c);
        }
        return m;
    }

    static void index(boolean good) {
        if (!good) throw new IndexOutOfBoundsException();
    }

    static void argument(boolean good) {
        if (!good) throw new IllegalArgumentException();
    }

    static void state(boolean good) {
        if (!good) throw new IllegalStateException();
    }

    static boolean in(int value, int least, int most) {
        return least <= value && value <= most;
    }

    static int distance(int x, int y, int u, int v) {
        return Math.abs(x - u) + Math.abs(y - v);
    }

    int way(int[] from, int x, int y, int t) {
        return (distance(from[0], from[1], x, y) * roads[t / 60 % 24] + 9) / 10;
    }

    boolean somebody(int home, int minute) {
        return (homes.get(home).hours & (1 << (minute / 60 % 24))) != 0;
    }

    // what there is

    int setRoads(int hour, int slow) {
        index(in(hour, 0, 23));
        argument(in(slow, 5, 30));
        int old = roads[hour];
        roads[hour] = slow;
        return old;
    }

    int setDepot(int x, int y) {
        argument(in(x, 0, 60) && in(y, 0, 60));
        int old = 100 * depotX + depotY;
        depotX = x;
        depotY = y;
        return old;
    }

    int addHome(int x, int y, int hours) {
        argument(in(x, 0, 60) && in(y, 0, 60) && in(hours, 0, (1 << 24) - 1));
        state(homes.size() < 16);
        Home h = new Home();
        h.x = x;
        h.y = y;
        h.hours = hours;
        homes = new ArrayList<>(homes);
        homes.add(h);
        return homes.size() - 1;
    }

    int order(int home, boolean isLocker, int which) {
        index(in(home, 0, homes.size() - 1));
        index(in(which, 0, (isLocker ? lockers.size() : homes.size()) - 1));
        argument(isLocker || home != which);
        state(homes.get(home).orders.size() < 3);
        homes.get(home).orders.add(new int[] {isLocker ? 1 : 0, which});
        return homes.get(home).orders.size();
    }

    int addLocker(int x, int y, int small, int middle, int large) {
        argument(in(x, 0, 60) && in(y, 0, 60) && in(small, 0, 9) && in(middle, 0, 9) && in(large, 0, 9));
        state(lockers.size() < 4);
        Locker l = new Locker();
        l.x = x;
        l.y = y;
        l.free = new int[] {small, middle, large};
        lockers.add(l);
        return lockers.size() - 1;
    }

    int addVan(int room, int start, int end) {
        argument(in(room, 10, 200) && in(start, 0, 1439) && in(end, start, 1439));
        state(vans.size() < 4);
        Van v = new Van();
        v.room = room;
        v.start = start;
        v.end = end;
        vans.add(v);
        return vans.size() - 1;
    }

    int addParcel(int kind, int volume, int home, int from, int till) {
        argument(in(kind, 0, 2) && in(volume, 1, 40) && in(from, 0, 1439) && in(till, from, 1439));
        index(in(home, 0, homes.size() - 1));
        state(parcels.size() < 30);
        Parcel p = new Parcel();
        p.kind = kind;
        p.volume = volume;
        p.home = home;
        p.from = from;
        p.till = till;
        parcels.add(p);
        return parcels.size() - 1;
    }

    // what is told

    int home(int home, int what) {
        index(in(home, 0, homes.size() - 1) && in(what, 0, 5));
        Home h = homes.get(home);
        int waits = 0;
        int left = 0;
        for (Parcel p : parcels) {
            if (p.home == home && p.state == 0) waits++;
            if (p.where == home && p.state == 3) left++;
        }
        return new int[] {h.x, h.y, h.hours, h.orders.size(), waits, left}[what];
    }

    int locker(int locker, int what) {
        index(in(locker, 0, lockers.size() - 1) && in(what, 0, 5));
        Locker l = lockers.get(locker);
        int lie = 0;
        for (Parcel p : parcels) {
            if (p.where == locker && p.state == 2) lie++;
        }
        return new int[] {l.x, l.y, l.free[0], l.free[1], l.free[2], lie}[what];
    }

    int parcel(int parcel, int what) {
        index(in(parcel, 0, parcels.size() - 1) && in(what, 0, 8));
        Parcel p = parcels.get(parcel);
        return new int[] {p.kind, p.volume, p.home, p.from, p.till, p.attempts, p.state, p.van, p.where}[what];
    }

    // routes

    /** The route as planned: {cost, going, late, back, breaks, greatest load}, and a row for each stop. */
    int[] planned(int van, List<int[]> stops) {
        Van v = vans.get(van);
        int load = 0;
        for (int p : v.route) {
            if (parcels.get(p).kind < 2) load += parcels.get(p).volume;
        }
        int greatest = load;
        int now = v.start;
        int work = v.start;
        int going = 0;
        int late = 0;
        int breaks = 0;
        int[] at = {depotX, depotY};
        for (int i = 0; i <= v.route.size(); i++) {
            boolean back = i == v.route.size();
            Parcel p = back ? null : parcels.get(v.route.get(i));
            int x = back ? depotX : homes.get(p.home).x;
            int y = back ? depotY : homes.get(p.home).y;
            if (now - work + way(at, x, y, now) > 240) {
                now += 30;
                work = now;
                breaks++;
            }
            int way = way(at, x, y, now);
            now += way;
            going += way;
            at = new int[] {x, y};
            if (back) break;
            now = Math.max(now, p.from);
            int behind = Math.max(0, now - p.till);
            late += behind;
            load = p.kind == 2 ? load + p.volume : load - p.volume;
            greatest = Math.max(greatest, load);
            stops.add(new int[] {now, behind, load, somebody(p.home, now) ? 1 : 0});
            now += 4;
        }
        int cost = going + 3 * late + 2 * Math.max(0, now - v.end);
        return new int[] {cost, going, late, now, breaks, greatest};
    }

    int cost(int van) {
        return planned(van, new ArrayList<>())[0];
    }

    int allCosts() {
        int sum = 0;
        for (int v = 0; v < vans.size(); v++) sum += cost(v);
        return sum;
    }

    boolean possible(int van) {
        return vans.get(van).route.size() <= 12 && planned(van, new ArrayList<>())[5] <= vans.get(van).room;
    }

    int put(int parcel, int van, int place) {
        index(in(parcel, 0, parcels.size() - 1) && in(van, 0, vans.size() - 1));
        index(in(place, 0, vans.get(van).route.size()));
        state(parcels.get(parcel).state == 0 && parcels.get(parcel).van == -1);
        int before = cost(van);
        vans.get(van).route.add(place, parcel);
        if (!possible(van)) {
            vans.get(van).route.remove(place);
            throw new IllegalStateException();
        }
        parcels.get(parcel).van = van;
        return cost(van) - before;
    }

    int take(int parcel) {
        index(in(parcel, 0, parcels.size() - 1));
        int van = parcels.get(parcel).van;
        state(van != -1);
        int before = cost(van);
        vans.get(van).route.remove((Integer) parcel);
        parcels.get(parcel).van = -1;
        return before - cost(van);
    }

    int route(int van, int place) {
        index(in(van, 0, vans.size() - 1));
        index(in(place, 0, vans.get(van).route.size() - 1));
        return vans.get(van).route.get(place);
    }

    int van(int van, int what) {
        index(in(van, 0, vans.size() - 1) && in(what, 0, 9));
        Van v = vans.get(van);
        if (what < 4) return new int[] {v.room, v.start, v.end, v.route.size()}[what];
        return planned(van, new ArrayList<>())[what - 4];
    }

    int stop(int van, int place, int what) {
        index(in(van, 0, vans.size() - 1));
        index(in(place, 0, vans.get(van).route.size() - 1) && in(what, 0, 3));
        List<int[]> stops = new ArrayList<>();
        planned(van, stops);
        return stops.get(place)[what];
    }

    // planning

    int adds(int parcel, int van, int place) {
        index(in(parcel, 0, parcels.size() - 1) && in(van, 0, vans.size() - 1));
        index(in(place, 0, vans.get(van).route.size()));
        Model m = copy();
        m.vans.get(van).route.add(place, parcel);
        return m.possible(van) ? m.cost(van) - cost(van) : 1000000;
    }

    /** {the spot, by how much the cost is greater}, null if it cannot be put in. */
    int[] cheapestWay(int parcel) {
        int[] best = null;
        for (int v = 0; v < vans.size(); v++) {
            for (int place = 0; place <= vans.get(v).route.size(); place++) {
                Model m = copy();
                try {
                    int more = m.put(parcel, v, place);
                    if (best == null || more < best[1]) best = new int[] {16 * v + place, more};
                } catch (IllegalStateException e) {
                    continue;
                }
            }
        }
        return best;
    }

    int cheapest(int parcel) {
        index(in(parcel, 0, parcels.size() - 1));
        int[] best = cheapestWay(parcel);
        return best == null ? -1 : best[0];
    }

    int plan() {
        int done = 0;
        while (true) {
            int[] best = null;
            for (int p = 0; p < parcels.size(); p++) {
                if (parcels.get(p).state != 0 || parcels.get(p).van != -1) continue;
                int[] way = cheapestWay(p);
                if (way != null && (best == null || way[1] < best[1])) best = new int[] {p, way[1], way[0]};
            }
            if (best == null) return done;
            put(best[0], best[2] / 16, best[2] % 16);
            done++;
        }
    }

    int improve(int van) {
        index(in(van, 0, vans.size() - 1));
        int now = cost(van);
        int least = now;
        List<Integer> best = null;
        int n = vans.get(van).route.size();
        for (int i = 0; i < n; i++) {
            for (int j = i + 1; j < n; j++) {
                Model m = copy();
                Collections.reverse(m.vans.get(van).route.subList(i, j + 1));
                if (m.possible(van) && m.cost(van) < least) {
                    least = m.cost(van);
                    best = m.vans.get(van).route;
                }
            }
        }
        if (best != null) vans.get(van).route = new ArrayList<>(best);
        return now - least;
    }

    int move() {
        int now = allCosts();
        int least = now;
        int[] best = null;
        for (int p = 0; p < parcels.size(); p++) {
            if (parcels.get(p).van == -1) continue;
            Model without = copy();
            without.take(p);
            for (int v = 0; v < vans.size(); v++) {
                for (int place = 0; place <= without.vans.get(v).route.size(); place++) {
                    Model m = without.copy();
                    try {
                        m.put(p, v, place);
                    } catch (IllegalStateException e) {
                        continue;
                    }
                    if (m.allCosts() < least) {
                        least = m.allCosts();
                        best = new int[] {p, v, place};
                    }
                }
            }
        }
        if (best != null) {
            take(best[0]);
            put(best[0], best[1], best[2]);
        }
        return now - least;
    }

    int count(int what) {
        index(in(what, 0, 11));
        int[] states = new int[5];
        int loose = 0;
        for (Parcel p : parcels) {
            states[p.state]++;
            if (p.state == 0 && p.van == -1) loose++;
        }
        return new int[] {day, homes.size(), lockers.size(), vans.size(), parcels.size(), states[0], loose, states[1],
            states[2], states[3], states[4], allCosts()}[what];
    }

    // the day

    int drive() {
        int done = 0;
        latest = 0;
        for (Van v : vans) {
            int now = v.start;
            int work = v.start;
            int[] at = {depotX, depotY};
            for (int i = 0; ; i++) {
                boolean back = i == v.route.size() || now - v.end > 60;
                Parcel p = back ? null : parcels.get(v.route.get(i));
                int x = back ? depotX : homes.get(p.home).x;
                int y = back ? depotY : homes.get(p.home).y;
                if (now - work + way(at, x, y, now) > 240) {
                    now += 30;
                    work = now;
                }
                now += way(at, x, y, now);
                at = new int[] {x, y};
                if (back) break;
                now = Math.max(now, p.from);
                int stop = now;
                now += 4;
                if (somebody(p.home, stop)) {
                    p.state = 1;
                    done++;
                    continue;
                }
                p.attempts++;
                if (p.kind != 2) {
                    for (int[] order : homes.get(p.home).orders) {
                        if (order[0] == 1) {
                            Locker l = lockers.get(order[1]);
                            int box = p.volume <= 5 ? 0 : p.volume <= 15 ? 1 : 2;
                            while (box < 3 && l.free[box] == 0) box++;
                            if (p.kind == 1 || box == 3 || distance(l.x, l.y, x, y) > 15) continue;
                            now += way(at, l.x, l.y, now) + 2;
                            at = new int[] {l.x, l.y};
                            l.free[box]--;
                            p.state = 2;
                            p.where = order[1];
                            p.box = box;
                            p.ends = 0;
                            break;
                        } else {
                            Home n = homes.get(order[1]);
                            if (distance(n.x, n.y, x, y) > 8) continue;
                            now += way(at, n.x, n.y, now);
                            at = new int[] {n.x, n.y};
                            if (!somebody(order[1], now)) continue;
                            now += 2;
                            p.state = 3;
                            p.where = order[1];
                            break;
                        }
                    }
                }
                if (p.state != 0) done++;
                else if (p.attempts == 3) p.state = 4;
            }
            latest = Math.max(latest, now);
        }
        for (Van v : vans) v.route.clear();
        for (Parcel p : parcels) {
            p.van = -1;
            if (p.state != 2) continue;
            Locker l = lockers.get(p.where);
            p.ends++;
            boolean near = distance(l.x, l.y, homes.get(p.home).x, homes.get(p.home).y) <= 10;
            if (near || p.ends == 3) {
                p.state = near ? 1 : 4;
                p.where = -1;
                l.free[p.box]++;
            }
        }
        day++;
        return done;
    }

    int foresee(int what) {
        index(in(what, 0, 2));
        Model m = copy();
        int done = m.drive();
        return new int[] {done, m.count(10) - count(10), m.latest}[what];
    }

    int hour(int home) {
        index(in(home, 0, homes.size() - 1));
        for (int length = 24; length > 0; length--) {
            for (int h = 0; h + length <= 24; h++) {
                int run = ((1 << length) - 1) << h;
                if ((homes.get(home).hours & run) == run) return h;
            }
        }
        return -1;
    }

    double mean() {
        double sum = 0;
        for (Parcel p : parcels) sum += p.attempts;
        return parcels.isEmpty() ? 0 : sum / parcels.size();
    }

    long digest() {
        List<Integer> all = new ArrayList<>();
        for (int i = 0; i < 12; i++) all.add(count(i));
        for (int slow : roads) all.add(slow);
        all.add(depotX);
        all.add(depotY);
        for (int h = 0; h < homes.size(); h++) {
            for (int i = 0; i < 6; i++) all.add(home(h, i));
            for (int[] order : homes.get(h).orders) all.add((order[0] == 1 ? 100 : 200) + order[1]);
        }
        for (int l = 0; l < lockers.size(); l++) {
            for (int i = 0; i < 6; i++) all.add(locker(l, i));
        }
        for (int p = 0; p < parcels.size(); p++) {
            for (int i = 0; i < 9; i++) all.add(parcel(p, i));
        }
        for (int v = 0; v < vans.size(); v++) {
            for (int i = 0; i < 10; i++) all.add(van(v, i));
            all.addAll(vans.get(v).route);
        }
        long d = 859;
        for (int x : all) d = d * 31 + x;
        return d;
    }
}
