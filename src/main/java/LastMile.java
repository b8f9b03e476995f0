import java.util.ArrayList;

/** A last mile planner: homes, lockers, parcels and vans, the routes that are planned, and the days that are driven. */
public final class LastMile {
    private static final int LARGEST_COORDINATE = 60;
    private static final int LAST_MINUTE = 1439;
    private static final int HOURS = 24;
    private static final int ALL_HOURS = 0xFFFFFF;
    private static final int LEAST_SLOW = 5;
    private static final int MOST_SLOW = 30;
    private static final int MOST_HOMES = 16;
    private static final int MOST_ORDERS = 3;
    private static final int MOST_LOCKERS = 4;
    private static final int MOST_BOXES = 9;
    private static final int BOX_SIZES = 3;
    private static final int[] BOX_VOLUMES = {5, 15, 40};
    private static final int MOST_VANS = 4;
    private static final int LEAST_ROOM = 10;
    private static final int MOST_ROOM = 200;
    private static final int MOST_PARCELS = 30;
    private static final int MOST_VOLUME = 40;
    private static final int MOST_ON_ROUTE = 12;
    private static final int MOST_ATTEMPTS = 3;

    private static final int SIGNED_FOR = 1;
    private static final int FETCHED = 2;

    private static final int WAITS = 0;
    private static final int DONE = 1;
    private static final int IN_LOCKER = 2;
    private static final int WITH_NEIGHBOUR = 3;
    private static final int GIVEN_UP = 4;

    private static final int STOP_MINUTES = 4;
    private static final int LEAVE_MINUTES = 2;
    private static final int LONGEST_WORK = 240;
    private static final int BREAK_MINUTES = 30;
    private static final int LONGEST_OVERTIME = 60;
    private static final int LATE_PRICE = 3;
    private static final int OVERTIME_PRICE = 2;
    private static final int FARTHEST_LOCKER = 15;
    private static final int FARTHEST_NEIGHBOUR = 8;
    private static final int FETCH_DISTANCE = 10;
    private static final int MOST_NIGHTS = 3;

    private static final int LOCKER_ORDER = 100;
    private static final int NEIGHBOUR_ORDER = 200;
    private static final int SPOTS_OF_VAN = 16;
    private static final int NOT_POSSIBLE = 1000000;

    private static final int COUNTS = 12;
    private static final int HOME_FACTS = 6;
    private static final int LOCKER_FACTS = 6;
    private static final int PARCEL_FACTS = 9;
    private static final int VAN_FACTS = 10;
    private static final int STOP_FACTS = 4;
    private static final int FORESIGHTS = 3;

    private final Town town = new Town();
    private final ArrayList<Home> homes = new ArrayList<>();
    private final ArrayList<Locker> lockers = new ArrayList<>();
    private final ArrayList<Van> vans = new ArrayList<>();
    private final ArrayList<Parcel> parcels = new ArrayList<>();
    private final Schedule schedule = new Schedule(town);
    private final Round round = new Round(town, homes, lockers);
    private final Choice choice = new Choice();
    private final Route trial = new Route();
    private final Route rest = new Route();
    private int day = 0;

    public LastMile() {
    }

    // ---- what there is

    public int setRoads(int hour, int slow) throws IndexOutOfBoundsException, IllegalArgumentException {
        needIndex(hour, HOURS);
        needRange(slow, LEAST_SLOW, MOST_SLOW);
        int before = town.slow[hour];
        town.slow[hour] = slow;
        return before;
    }

    public int setDepot(int x, int y) throws IllegalArgumentException {
        needPlace(x, y);
        Place before = town.depot;
        town.depot = new Place(x, y);
        return 100 * before.x + before.y;
    }

    public int addHome(int x, int y, int hours) throws IllegalArgumentException, IllegalStateException {
        needPlace(x, y);
        needRange(hours, 0, ALL_HOURS);
        needSpace(homes.size(), MOST_HOMES);
        homes.add(new Home(new Place(x, y), hours));
        return homes.size() - 1;
    }

    public int order(int home, boolean isLocker, int which)
            throws IndexOutOfBoundsException, IllegalArgumentException, IllegalStateException {
        needIndex(home, homes.size());
        needIndex(which, isLocker ? lockers.size() : homes.size());
        if (!isLocker && which == home) {
            throw new IllegalArgumentException("a home is not its own neighbour");
        }
        Home giver = homes.get(home);
        needSpace(giver.orderCount, MOST_ORDERS);
        giver.orders[giver.orderCount] = (isLocker ? LOCKER_ORDER : NEIGHBOUR_ORDER) + which;
        giver.orderCount++;
        return giver.orderCount;
    }

    public int addLocker(int x, int y, int small, int middle, int large)
            throws IllegalArgumentException, IllegalStateException {
        needPlace(x, y);
        needRange(small, 0, MOST_BOXES);
        needRange(middle, 0, MOST_BOXES);
        needRange(large, 0, MOST_BOXES);
        needSpace(lockers.size(), MOST_LOCKERS);
        lockers.add(new Locker(new Place(x, y), small, middle, large));
        return lockers.size() - 1;
    }

    public int addVan(int room, int start, int end) throws IllegalArgumentException, IllegalStateException {
        needRange(room, LEAST_ROOM, MOST_ROOM);
        needRange(start, 0, LAST_MINUTE);
        needRange(end, start, LAST_MINUTE);
        needSpace(vans.size(), MOST_VANS);
        vans.add(new Van(vans.size(), room, start, end));
        return vans.size() - 1;
    }

    public int addParcel(int kind, int volume, int home, int from, int till)
            throws IllegalArgumentException, IndexOutOfBoundsException, IllegalStateException {
        needRange(kind, 0, FETCHED);
        needRange(volume, 1, MOST_VOLUME);
        needRange(from, 0, LAST_MINUTE);
        needRange(till, from, LAST_MINUTE);
        needIndex(home, homes.size());
        needSpace(parcels.size(), MOST_PARCELS);
        parcels.add(new Parcel(parcels.size(), kind, volume, home, homes.get(home), from, till));
        return parcels.size() - 1;
    }

    // ---- what is told

    public int home(int home, int what) throws IndexOutOfBoundsException {
        needIndex(home, homes.size());
        needIndex(what, HOME_FACTS);
        return factOfHome(home, what);
    }

    public int locker(int locker, int what) throws IndexOutOfBoundsException {
        needIndex(locker, lockers.size());
        needIndex(what, LOCKER_FACTS);
        return factOfLocker(locker, what);
    }

    public int parcel(int parcel, int what) throws IndexOutOfBoundsException {
        needIndex(parcel, parcels.size());
        needIndex(what, PARCEL_FACTS);
        return factOfParcel(parcels.get(parcel), what);
    }

    // ---- routes

    public int put(int parcel, int van, int place) throws IndexOutOfBoundsException, IllegalStateException {
        needSpot(parcel, van, place);
        Parcel chosen = parcels.get(parcel);
        Van carrier = vans.get(van);
        int added = isLoose(chosen) ? addedCost(chosen, carrier, place) : NOT_POSSIBLE;
        if (added == NOT_POSSIBLE) {
            throw new IllegalStateException("it does not wait, it is on a route, or the route would not be possible");
        }
        putIn(chosen, carrier, place);
        return added;
    }

    public int take(int parcel) throws IndexOutOfBoundsException, IllegalStateException {
        needIndex(parcel, parcels.size());
        Parcel chosen = parcels.get(parcel);
        if (chosen.van == null) {
            throw new IllegalStateException("it is on no route");
        }
        Van carrier = chosen.van;
        int before = schedule.follow(carrier, carrier.row);
        takeOut(chosen);
        return before - schedule.follow(carrier, carrier.row);
    }

    public int route(int van, int place) throws IndexOutOfBoundsException {
        needStop(van, place);
        return vans.get(van).row.at(place).number;
    }

    public int van(int van, int what) throws IndexOutOfBoundsException {
        needIndex(van, vans.size());
        needIndex(what, VAN_FACTS);
        return factOfVan(vans.get(van), what);
    }

    public int stop(int van, int place, int what) throws IndexOutOfBoundsException {
        needStop(van, place);
        needIndex(what, STOP_FACTS);
        Van carrier = vans.get(van);
        schedule.follow(carrier, carrier.row);
        int minute = schedule.minutes[place];
        switch (what) {
            case 0:
                return minute;
            case 1:
                return schedule.lates[place];
            case 2:
                return schedule.loads[place];
            default:
                return carrier.row.at(place).home.isSomebodyIn(minute) ? 1 : 0;
        }
    }

    // ---- planning

    public int adds(int parcel, int van, int place) throws IndexOutOfBoundsException {
        needSpot(parcel, van, place);
        return addedCost(parcels.get(parcel), vans.get(van), place);
    }

    public int cheapest(int parcel) throws IndexOutOfBoundsException {
        needIndex(parcel, parcels.size());
        Parcel chosen = parcels.get(parcel);
        choice.forget();
        weighPuttingIn(chosen);
        return choice.parcel == null ? -1 : choice.spot;
    }

    public int plan() {
        int done = 0;
        // Each turn puts one parcel in, so that there are no more turns than parcels.
        for (int turn = 0; turn < parcels.size(); turn++) {
            choice.forget();
            for (int i = 0; i < parcels.size(); i++) {
                weighPuttingIn(parcels.get(i));
            }
            if (choice.parcel == null) {
                break;
            }
            putInAtSpot(choice.parcel, choice.spot);
            done++;
        }
        return done;
    }

    public int improve(int van) throws IndexOutOfBoundsException {
        needIndex(van, vans.size());
        Van carrier = vans.get(van);
        int before = schedule.follow(carrier, carrier.row);
        int least = before;
        int bestFirst = 0;
        int bestLast = 0;
        for (int first = 0; first < carrier.row.size; first++) {
            for (int last = first + 1; last < carrier.row.size; last++) {
                trial.copy(carrier.row);
                trial.turn(first, last);
                if (!trial.fits(carrier.room)) {
                    continue;
                }
                int cost = schedule.follow(carrier, trial);
                if (cost < least) {
                    least = cost;
                    bestFirst = first;
                    bestLast = last;
                }
            }
        }
        carrier.row.turn(bestFirst, bestLast);
        return before - least;
    }

    public int move() {
        choice.forget();
        for (int i = 0; i < parcels.size(); i++) {
            weighMoving(parcels.get(i));
        }
        if (choice.parcel == null || choice.change >= 0) {
            return 0;
        }
        takeOut(choice.parcel);
        putInAtSpot(choice.parcel, choice.spot);
        return -choice.change;
    }

    public int count(int what) throws IndexOutOfBoundsException {
        needIndex(what, COUNTS);
        return counted(what);
    }

    // ---- the day

    public int drive() {
        driveVans();
        for (int i = 0; i < parcels.size(); i++) {
            parcels.get(i).van = null;
        }
        for (int i = 0; i < vans.size(); i++) {
            vans.get(i).row.size = 0;
        }
        day++;
        return round.done;
    }

    public int foresee(int what) throws IndexOutOfBoundsException {
        needIndex(what, FORESIGHTS);
        int givenUp = inState(GIVEN_UP);
        keepAll();
        driveVans();
        int moreGivenUp = inState(GIVEN_UP) - givenUp;
        giveBackAll();
        switch (what) {
            case 0:
                return round.done;
            case 1:
                return moreGivenUp;
            default:
                return round.latest;
        }
    }

    public int hour(int home) throws IndexOutOfBoundsException {
        needIndex(home, homes.size());
        Home chosen = homes.get(home);
        int best = -1;
        int longest = 0;
        for (int hour = 0; hour < HOURS; hour++) {
            int length = chosen.hoursFrom(hour);
            if (length > longest) {
                longest = length;
                best = hour;
            }
        }
        return best;
    }

    public double mean() {
        int attempts = 0;
        for (int i = 0; i < parcels.size(); i++) {
            attempts += parcels.get(i).attempts;
        }
        return parcels.isEmpty() ? 0.0 : (double) attempts / parcels.size();
    }

    public long digest() {
        long d = 859;
        for (int what = 0; what < COUNTS; what++) {
            d = mixed(d, counted(what));
        }
        for (int hour = 0; hour < HOURS; hour++) {
            d = mixed(d, town.slow[hour]);
        }
        d = mixed(d, town.depot.x);
        d = mixed(d, town.depot.y);
        d = withHomes(d);
        d = withLockers(d);
        d = withParcels(d);
        return withVans(d);
    }

    // ---- what calls are refused for

    private static void needIndex(int index, int count) {
        if (index < 0 || index >= count) {
            throw new IndexOutOfBoundsException("there is no such number");
        }
    }

    private static void needRange(int value, int least, int most) {
        if (value < least || value > most) {
            throw new IllegalArgumentException("a value is out of its range");
        }
    }

    private static void needPlace(int x, int y) {
        needRange(x, 0, LARGEST_COORDINATE);
        needRange(y, 0, LARGEST_COORDINATE);
    }

    private static void needSpace(int count, int most) {
        if (count >= most) {
            throw new IllegalStateException("there are as many as there may be");
        }
    }

    private void needStop(int van, int place) {
        needIndex(van, vans.size());
        needIndex(place, vans.get(van).row.size);
    }

    private void needSpot(int parcel, int van, int place) {
        needIndex(parcel, parcels.size());
        needIndex(van, vans.size());
        // Behind all others is a place too.
        needIndex(place, vans.get(van).row.size + 1);
    }

    // ---- facts

    private int factOfHome(int number, int what) {
        Home home = homes.get(number);
        switch (what) {
            case 0:
                return home.place.x;
            case 1:
                return home.place.y;
            case 2:
                return home.hours;
            case 3:
                return home.orderCount;
            case 4:
                return waitingFor(number);
            default:
                return lyingAt(WITH_NEIGHBOUR, number);
        }
    }

    private int factOfLocker(int number, int what) {
        Locker locker = lockers.get(number);
        switch (what) {
            case 0:
                return locker.place.x;
            case 1:
                return locker.place.y;
            case 2:
            case 3:
            case 4:
                return locker.free[what - 2];
            default:
                return lyingAt(IN_LOCKER, number);
        }
    }

    private int factOfParcel(Parcel parcel, int what) {
        switch (what) {
            case 0:
                return parcel.kind;
            case 1:
                return parcel.volume;
            case 2:
                return parcel.homeNumber;
            case 3:
                return parcel.from;
            case 4:
                return parcel.till;
            case 5:
                return parcel.attempts;
            case 6:
                return parcel.state;
            case 7:
                return parcel.van == null ? -1 : parcel.van.number;
            default:
                return parcel.where;
        }
    }

    private int factOfVan(Van van, int what) {
        int cost = schedule.follow(van, van.row);
        switch (what) {
            case 0:
                return van.room;
            case 1:
                return van.start;
            case 2:
                return van.end;
            case 3:
                return van.row.size;
            case 4:
                return cost;
            case 5:
                return schedule.trip.going;
            case 6:
                return schedule.lateness;
            case 7:
                return schedule.trip.minute;
            case 8:
                return schedule.trip.breaks;
            default:
                return van.row.greatestLoad();
        }
    }

    private int counted(int what) {
        switch (what) {
            case 0:
                return day;
            case 1:
                return homes.size();
            case 2:
                return lockers.size();
            case 3:
                return vans.size();
            case 4:
                return parcels.size();
            case 5:
                return inState(WAITS);
            case 6:
                return looseParcels();
            case 7:
                return inState(DONE);
            case 8:
                return inState(IN_LOCKER);
            case 9:
                return inState(WITH_NEIGHBOUR);
            case 10:
                return inState(GIVEN_UP);
            default:
                return costOfAll();
        }
    }

    private int inState(int state) {
        int found = 0;
        for (int i = 0; i < parcels.size(); i++) {
            if (parcels.get(i).state == state) {
                found++;
            }
        }
        return found;
    }

    private int lyingAt(int state, int where) {
        int found = 0;
        for (int i = 0; i < parcels.size(); i++) {
            Parcel parcel = parcels.get(i);
            if (parcel.state == state && parcel.where == where) {
                found++;
            }
        }
        return found;
    }

    private int waitingFor(int home) {
        int found = 0;
        for (int i = 0; i < parcels.size(); i++) {
            Parcel parcel = parcels.get(i);
            if (parcel.homeNumber == home && parcel.state == WAITS) {
                found++;
            }
        }
        return found;
    }

    private int looseParcels() {
        int found = 0;
        for (int i = 0; i < parcels.size(); i++) {
            if (isLoose(parcels.get(i))) {
                found++;
            }
        }
        return found;
    }

    private int costOfAll() {
        int cost = 0;
        for (int i = 0; i < vans.size(); i++) {
            cost += schedule.follow(vans.get(i), vans.get(i).row);
        }
        return cost;
    }

    // ---- changing routes

    private static boolean isLoose(Parcel parcel) {
        return parcel.state == WAITS && parcel.van == null;
    }

    private static void putIn(Parcel parcel, Van van, int place) {
        van.row.insert(parcel, place);
        parcel.van = van;
    }

    private void putInAtSpot(Parcel parcel, int spot) {
        putIn(parcel, vans.get(spot / SPOTS_OF_VAN), spot % SPOTS_OF_VAN);
    }

    private static void takeOut(Parcel parcel) {
        parcel.van.row.remove(parcel);
        parcel.van = null;
    }

    private int addedCost(Parcel parcel, Van van, int place) {
        trial.copy(van.row);
        trial.insert(parcel, place);
        if (!trial.fits(van.room)) {
            return NOT_POSSIBLE;
        }
        return schedule.follow(van, trial) - schedule.follow(van, van.row);
    }

    private void weighPuttingIn(Parcel parcel) {
        if (!isLoose(parcel)) {
            return;
        }
        for (int i = 0; i < vans.size(); i++) {
            weighPlaces(parcel, vans.get(i), vans.get(i).row, 0);
        }
    }

    private void weighMoving(Parcel parcel) {
        if (parcel.van == null) {
            return;
        }
        Van carrier = parcel.van;
        rest.copy(carrier.row);
        rest.remove(parcel);
        int saved = schedule.follow(carrier, carrier.row) - schedule.follow(carrier, rest);
        for (int i = 0; i < vans.size(); i++) {
            Van van = vans.get(i);
            weighPlaces(parcel, van, van == carrier ? rest : van.row, saved);
        }
    }

    private void weighPlaces(Parcel parcel, Van van, Route base, int saved) {
        int before = schedule.follow(van, base);
        for (int place = 0; place <= base.size; place++) {
            trial.copy(base);
            trial.insert(parcel, place);
            if (trial.fits(van.room)) {
                int change = schedule.follow(van, trial) - before - saved;
                choice.weigh(change, parcel, SPOTS_OF_VAN * van.number + place);
            }
        }
    }

    // ---- driving and looking ahead

    private void driveVans() {
        round.begin();
        for (int i = 0; i < vans.size(); i++) {
            round.driveVan(vans.get(i));
        }
        for (int i = 0; i < parcels.size(); i++) {
            round.endDay(parcels.get(i));
        }
    }

    private void keepAll() {
        for (int i = 0; i < parcels.size(); i++) {
            parcels.get(i).keep();
        }
        for (int i = 0; i < lockers.size(); i++) {
            lockers.get(i).keep();
        }
    }

    private void giveBackAll() {
        for (int i = 0; i < parcels.size(); i++) {
            parcels.get(i).giveBack();
        }
        for (int i = 0; i < lockers.size(); i++) {
            lockers.get(i).giveBack();
        }
    }

    // ---- the checksum

    private static long mixed(long d, long x) {
        return d * 31 + x;
    }

    private long withHomes(long start) {
        long d = start;
        for (int i = 0; i < homes.size(); i++) {
            for (int what = 0; what < HOME_FACTS; what++) {
                d = mixed(d, factOfHome(i, what));
            }
            Home home = homes.get(i);
            for (int k = 0; k < home.orderCount; k++) {
                d = mixed(d, home.orders[k]);
            }
        }
        return d;
    }

    private long withLockers(long start) {
        long d = start;
        for (int i = 0; i < lockers.size(); i++) {
            for (int what = 0; what < LOCKER_FACTS; what++) {
                d = mixed(d, factOfLocker(i, what));
            }
        }
        return d;
    }

    private long withParcels(long start) {
        long d = start;
        for (int i = 0; i < parcels.size(); i++) {
            for (int what = 0; what < PARCEL_FACTS; what++) {
                d = mixed(d, factOfParcel(parcels.get(i), what));
            }
        }
        return d;
    }

    private long withVans(long start) {
        long d = start;
        for (int i = 0; i < vans.size(); i++) {
            Van van = vans.get(i);
            for (int what = 0; what < VAN_FACTS; what++) {
                d = mixed(d, factOfVan(van, what));
            }
            for (int place = 0; place < van.row.size; place++) {
                d = mixed(d, van.row.at(place).number);
            }
        }
        return d;
    }

    /** A place on the map. */
    private static final class Place {
        final int x;
        final int y;

        Place(int x, int y) {
            this.x = x;
            this.y = y;
        }

        int distanceTo(Place other) {
            int dx = x - other.x;
            int dy = y - other.y;
            return (dx < 0 ? -dx : dx) + (dy < 0 ? -dy : dy);
        }
    }

    /** The roads and the depot. */
    private static final class Town {
        final int[] slow = new int[HOURS];
        Place depot = new Place(30, 30);

        Town() {
            for (int hour = 0; hour < HOURS; hour++) {
                slow[hour] = 10;
            }
        }

        int minutesOf(Place from, Place to, int begin) {
            return (from.distanceTo(to) * slow[hourOf(begin)] + 9) / 10;
        }

        /** Minutes are never below 0, so that the remainder is an hour. */
        static int hourOf(int minute) {
            return minute / 60 % HOURS;
        }
    }

    /** A home with its hours and its standing orders, each as the checksum tells it. */
    private static final class Home {
        final Place place;
        final int hours;
        final int[] orders = new int[MOST_ORDERS];
        int orderCount = 0;

        Home(Place place, int hours) {
            this.place = place;
            this.hours = hours;
        }

        boolean isSomebodyIn(int minute) {
            return (hours >> Town.hourOf(minute) & 1) == 1;
        }

        /** How many hours, beginning with this one, one after the other, somebody is at home. */
        int hoursFrom(int first) {
            int length = 0;
            for (int hour = first; hour < HOURS && (hours >> hour & 1) == 1; hour++) {
                length++;
            }
            return length;
        }
    }

    /** A locker with its free boxes. */
    private static final class Locker {
        final Place place;
        final int[] free = new int[BOX_SIZES];
        private final int[] kept = new int[BOX_SIZES];

        Locker(Place place, int small, int middle, int large) {
            this.place = place;
            free[0] = small;
            free[1] = middle;
            free[2] = large;
        }

        /** The least size of a free box that is enough; -1 if there is none. */
        int boxFor(int volume) {
            for (int size = 0; size < BOX_SIZES; size++) {
                if (volume <= BOX_VOLUMES[size] && free[size] > 0) {
                    return size;
                }
            }
            return -1;
        }

        void keep() {
            System.arraycopy(free, 0, kept, 0, BOX_SIZES);
        }

        void giveBack() {
            System.arraycopy(kept, 0, free, 0, BOX_SIZES);
        }
    }

    /** A parcel; its van is null as long as it is on no route. */
    private static final class Parcel {
        final int number;
        final int kind;
        final int volume;
        final int homeNumber;
        final Home home;
        final int from;
        final int till;
        Van van = null;
        int attempts = 0;
        int state = WAITS;
        int where = -1;
        int box = -1;
        int nights = 0;
        private final int[] kept = new int[5];

        Parcel(int number, int kind, int volume, int homeNumber, Home home, int from, int till) {
            this.number = number;
            this.kind = kind;
            this.volume = volume;
            this.homeNumber = homeNumber;
            this.home = home;
            this.from = from;
            this.till = till;
        }

        void keep() {
            kept[0] = attempts;
            kept[1] = state;
            kept[2] = where;
            kept[3] = box;
            kept[4] = nights;
        }

        void giveBack() {
            attempts = kept[0];
            state = kept[1];
            where = kept[2];
            box = kept[3];
            nights = kept[4];
        }
    }

    /** A van with its shift and its route. */
    private static final class Van {
        final int number;
        final int room;
        final int start;
        final int end;
        final Route row = new Route();

        Van(int number, int room, int start, int end) {
            this.number = number;
            this.room = room;
            this.start = start;
            this.end = end;
        }
    }

    /** A row of parcels; there is space for one more than is possible, so that this can be tried. */
    private static final class Route {
        private final Parcel[] row = new Parcel[MOST_ON_ROUTE + 1];
        int size = 0;

        Parcel at(int place) {
            return row[place];
        }

        void copy(Route other) {
            size = other.size;
            for (int i = 0; i < size; i++) {
                row[i] = other.row[i];
            }
        }

        void insert(Parcel parcel, int place) {
            if (size >= row.length || place < 0 || place > size) {
                return;
            }
            for (int i = size; i > place; i--) {
                row[i] = row[i - 1];
            }
            row[place] = parcel;
            size++;
        }

        void remove(Parcel parcel) {
            int left = 0;
            for (int i = 0; i < size; i++) {
                if (row[i] != parcel) {
                    row[left] = row[i];
                    left++;
                }
            }
            size = left;
        }

        void turn(int first, int last) {
            for (int i = first, k = last; i < k; i++, k--) {
                Parcel swapped = row[i];
                row[i] = row[k];
                row[k] = swapped;
            }
        }

        boolean fits(int room) {
            return size <= MOST_ON_ROUTE && greatestLoad() <= room;
        }

        int loadAtDepot() {
            int load = 0;
            for (int i = 0; i < size; i++) {
                if (row[i].kind != FETCHED) {
                    load += row[i].volume;
                }
            }
            return load;
        }

        int greatestLoad() {
            int load = loadAtDepot();
            int greatest = load;
            for (int i = 0; i < size; i++) {
                load += row[i].kind == FETCHED ? row[i].volume : -row[i].volume;
                if (load > greatest) {
                    greatest = load;
                }
            }
            return greatest;
        }
    }

    /** Where a van is, and when, and what it has gone through since it began. */
    private static final class Trip {
        private final Town town;
        private Place place;
        private int workSince = 0;
        int minute = 0;
        int going = 0;
        int breaks = 0;

        Trip(Town town) {
            this.town = town;
            this.place = town.depot;
        }

        void begin(int start) {
            place = town.depot;
            workSince = start;
            minute = start;
            going = 0;
            breaks = 0;
        }

        /** Whether there is a break goes by the way as it would begin now; the way itself begins behind the break. */
        void goWithBreak(Place goal) {
            int way = town.minutesOf(place, goal, minute);
            if (minute - workSince + way > LONGEST_WORK) {
                minute += BREAK_MINUTES;
                workSince = minute;
                breaks++;
                way = town.minutesOf(place, goal, minute);
            }
            arrive(goal, way);
        }

        void goStraight(Place goal) {
            arrive(goal, town.minutesOf(place, goal, minute));
        }

        private void arrive(Place goal, int way) {
            going += way;
            minute += way;
            place = goal;
        }

        void waitTill(int begin) {
            if (minute < begin) {
                minute = begin;
            }
        }

        void stay(int minutes) {
            minute += minutes;
        }
    }

    /** How a route goes as it is planned: one object, used again for every route that is looked at. */
    private static final class Schedule {
        private final Town town;
        final Trip trip;
        final int[] minutes = new int[MOST_ON_ROUTE];
        final int[] lates = new int[MOST_ON_ROUTE];
        final int[] loads = new int[MOST_ON_ROUTE];
        int lateness = 0;

        Schedule(Town town) {
            this.town = town;
            this.trip = new Trip(town);
        }

        /** Goes through the route, of at most 12 parcels, and answers its cost. */
        int follow(Van van, Route route) {
            int load = route.loadAtDepot();
            lateness = 0;
            trip.begin(van.start);
            for (int i = 0; i < route.size && i < MOST_ON_ROUTE; i++) {
                Parcel parcel = route.at(i);
                trip.goWithBreak(parcel.home.place);
                trip.waitTill(parcel.from);
                load += parcel.kind == FETCHED ? parcel.volume : -parcel.volume;
                minutes[i] = trip.minute;
                lates[i] = trip.minute > parcel.till ? trip.minute - parcel.till : 0;
                loads[i] = load;
                lateness += lates[i];
                trip.stay(STOP_MINUTES);
            }
            trip.goWithBreak(town.depot);
            int overtime = trip.minute > van.end ? trip.minute - van.end : 0;
            return trip.going + LATE_PRICE * lateness + OVERTIME_PRICE * overtime;
        }
    }

    /** What was found best so far; of equals the one that was weighed first stays. */
    private static final class Choice {
        int change = 0;
        int spot = -1;
        Parcel parcel = null;

        void forget() {
            parcel = null;
        }

        void weigh(int newChange, Parcel newParcel, int newSpot) {
            if (parcel == null || newChange < change) {
                change = newChange;
                parcel = newParcel;
                spot = newSpot;
            }
        }
    }

    /** A day's driving. */
    private static final class Round {
        private final Town town;
        private final ArrayList<Home> homes;
        private final ArrayList<Locker> lockers;
        private final Trip trip;
        int done = 0;
        int latest = 0;

        Round(Town town, ArrayList<Home> homes, ArrayList<Locker> lockers) {
            this.town = town;
            this.homes = homes;
            this.lockers = lockers;
            this.trip = new Trip(town);
        }

        void begin() {
            done = 0;
            latest = 0;
        }

        void driveVan(Van van) {
            trip.begin(van.start);
            for (int i = 0; i < van.row.size && trip.minute <= van.end + LONGEST_OVERTIME; i++) {
                Parcel parcel = van.row.at(i);
                visit(parcel);
                if (parcel.state == WAITS && parcel.kind != FETCHED) {
                    tryOrders(parcel);
                }
                settle(parcel);
            }
            trip.goWithBreak(town.depot);
            if (trip.minute > latest) {
                latest = trip.minute;
            }
        }

        private void visit(Parcel parcel) {
            trip.goWithBreak(parcel.home.place);
            trip.waitTill(parcel.from);
            if (parcel.home.isSomebodyIn(trip.minute)) {
                parcel.state = DONE;
            } else {
                parcel.attempts++;
            }
            trip.stay(STOP_MINUTES);
        }

        private void settle(Parcel parcel) {
            if (parcel.state != WAITS) {
                done++;
            } else if (parcel.attempts >= MOST_ATTEMPTS) {
                parcel.state = GIVEN_UP;
            }
        }

        private void tryOrders(Parcel parcel) {
            Home home = parcel.home;
            for (int i = 0; i < home.orderCount && parcel.state == WAITS; i++) {
                int order = home.orders[i];
                if (order >= NEIGHBOUR_ORDER) {
                    tryNeighbour(parcel, order - NEIGHBOUR_ORDER);
                } else {
                    tryLocker(parcel, order - LOCKER_ORDER);
                }
            }
        }

        private void tryLocker(Parcel parcel, int number) {
            Locker locker = lockers.get(number);
            int box = locker.boxFor(parcel.volume);
            boolean isFar = locker.place.distanceTo(parcel.home.place) > FARTHEST_LOCKER;
            if (parcel.kind == SIGNED_FOR || isFar || box < 0) {
                return;
            }
            trip.goStraight(locker.place);
            trip.stay(LEAVE_MINUTES);
            locker.free[box]--;
            parcel.state = IN_LOCKER;
            parcel.where = number;
            parcel.box = box;
        }

        private void tryNeighbour(Parcel parcel, int number) {
            Home neighbour = homes.get(number);
            if (neighbour.place.distanceTo(parcel.home.place) > FARTHEST_NEIGHBOUR) {
                return;
            }
            trip.goStraight(neighbour.place);
            if (neighbour.isSomebodyIn(trip.minute)) {
                trip.stay(LEAVE_MINUTES);
                parcel.state = WITH_NEIGHBOUR;
                parcel.where = number;
            }
        }

        void endDay(Parcel parcel) {
            if (parcel.state != IN_LOCKER) {
                return;
            }
            Locker locker = lockers.get(parcel.where);
            parcel.nights++;
            if (locker.place.distanceTo(parcel.home.place) <= FETCH_DISTANCE) {
                emptyBox(parcel, locker, DONE);
            } else if (parcel.nights >= MOST_NIGHTS) {
                emptyBox(parcel, locker, GIVEN_UP);
            }
        }

        private static void emptyBox(Parcel parcel, Locker locker, int state) {
            locker.free[parcel.box]++;
            parcel.state = state;
            parcel.where = -1;
        }
    }
}
