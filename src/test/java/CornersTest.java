import java.util.Arrays;

/**
 * Each call with all combinations of the last arguments that are allowed and the first that are not, on objects with
 * nothing, something, and as much as there may be: the exception that is named first is thrown, and nothing changes.
 */
public final class CornersTest {
    private static final int LOW = Integer.MIN_VALUE;
    private static final int HIGH = Integer.MAX_VALUE;
    private static final int DAY = 0xFFFFFF;
    private static final int[] FEW = {LOW, -1, 0, 1, 2, 4, HIGH};
    private static final int[] MANY = {LOW, -1, 0, 15, 16, 29, 30, HIGH};
    private static final int[] PLACES = {LOW, -1, 0, 60, 61, HIGH};
    private static final int[] MINUTES = {-1, 0, 700, 1439, 1440};
    private static final int[] BOXES = {-1, 0, 9, 10};
    private static final int[] VANS = {LOW, -1, 0, 1, 3, 4, HIGH};
    private static final int[] SPOTS = {LOW, -1, 0, 1, 6, 11, 12, 13, HIGH};

    private final int stage;
    private Both both;
    private int calls;

    private CornersTest(int stage) {
        this.stage = stage;
        makeAnew();
    }

    public static void main(String[] args) {
        for (int stage = 0; stage <= 3; stage++) {
            new CornersTest(stage).callAll();
        }
        Check.end();
    }

    private void callAll() {
        each("setRoads", new int[] {LOW, -1, 0, 23, 24, HIGH}, new int[] {LOW, 4, 5, 30, 31, HIGH});
        each("setDepot", PLACES, PLACES);
        each("addHome", PLACES, PLACES, new int[] {LOW, -1, 0, DAY, DAY + 1, HIGH});
        each("order", MANY, new int[] {0, 1}, new int[] {LOW, -1, 0, 1, 3, 4, 15, 16, HIGH});
        each("addLocker", PLACES, new int[] {-1, 0, 60, 61}, BOXES, BOXES, BOXES);
        each("addVan", new int[] {LOW, 9, 10, 200, 201, HIGH}, MINUTES, MINUTES);
        each("addParcel", new int[] {-1, 0, 2, 3}, new int[] {0, 1, 40, 41}, new int[] {LOW, -1, 0, 15, 16, HIGH},
            MINUTES, MINUTES);
        each("home", MANY, new int[] {LOW, -1, 0, 3, 4, 5, 6, HIGH});
        each("locker", FEW, new int[] {LOW, -1, 0, 1, 2, 3, 4, 5, 6, HIGH});
        each("parcel", MANY, new int[] {LOW, -1, 0, 6, 7, 8, 9, HIGH});
        each("put", MANY, VANS, SPOTS);
        each("take", MANY);
        each("route", VANS, SPOTS);
        each("van", VANS, new int[] {LOW, -1, 0, 3, 4, 7, 9, 10, HIGH});
        each("stop", VANS, SPOTS, new int[] {LOW, -1, 0, 1, 2, 3, 4, HIGH});
        each("adds", MANY, VANS, SPOTS);
        each("cheapest", MANY);
        each("plan");
        each("improve", VANS);
        each("move");
        each("count", new int[] {LOW, -1, 0, 5, 6, 10, 11, 12, HIGH});
        each("drive");
        each("foresee", new int[] {LOW, -1, 0, 1, 2, 3, HIGH});
        each("hour", MANY);
        each("mean");
        each("digest");
    }

    private void each(String name, int[]... corners) {
        int[] chosen = new int[corners.length];
        boolean isDone = false;
        while (!isDone) {
            for (int i = 0; i < corners.length; i++) {
                both.a[i] = corners[i][chosen[i]];
            }
            callBoth(name);
            int i = 0;
            while (i < corners.length && ++chosen[i] == corners[i].length) {
                chosen[i++] = 0;
            }
            isDone = i == corners.length;
        }
    }

    /** What is refused is called on the same object again and again; what is answered has a new one behind it. */
    private void callBoth(String name) {
        String what = "stage " + stage + ", " + name + Arrays.toString(both.a);
        String want = both.ofModel(name);
        long before = both.x.digest();
        String got = both.ofClass(name);
        long behind = both.x.digest();
        calls += 3;
        boolean isRefused = want.endsWith("Exception");
        Check.due(what + " answered " + got + ", due is " + want, got.equals(want));
        Check.due(what + ": digest", behind, isRefused ? before : both.m.digest());
        if (!isRefused || calls > 300) {
            makeAnew();
        }
    }

    private void makeAnew() {
        both = new Both();
        calls = 0;
        if (stage > 0) {
            fill(stage == 1 ? 1 : 16, stage == 1 ? 1 : 4, stage == 1 ? 2 : 30);
        }
        // Behind the day's end some parcels are handed over, lie in lockers, or were left.
        if (stage == 3) {
            call("plan");
            call("drive");
        }
        if (stage > 1) {
            call("plan");
        }
    }

    private void fill(int homes, int others, int parcels) {
        for (int i = 0; i < homes; i++) {
            call("addHome", 28 + i % 4, 28 + i / 4, i % 3 == 0 ? DAY : 0);
        }
        for (int i = 0; i < others; i++) {
            call("addLocker", 20 + i, 28, i, i, i);
            call("addVan", i % 2 == 0 ? 200 : 40, 480 + i, 1000);
        }
        for (int i = 0; i < homes; i++) {
            call("order", i, 1, i % others);
            if (homes > 1) {
                call("order", i, 0, (i + 1) % homes);
            }
            if (homes > 1 && i % 5 != 0) {
                call("order", i, 0, (i + 2) % homes);
            }
        }
        for (int i = 0; i < parcels; i++) {
            call("addParcel", i % 3, 1 + i, i % homes, 10 * i, 1000);
        }
    }

    private void call(String name, int... arguments) {
        System.arraycopy(arguments, 0, both.a, 0, arguments.length);
        String got = both.ofClass(name);
        String want = both.ofModel(name);
        Arrays.fill(both.a, 0);
        calls++;
        Check.due("stage " + stage + ", filling, " + name, got.equals(want) && !got.endsWith("Exception"));
    }
}
