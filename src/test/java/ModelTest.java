import java.util.Random;

/** Runs of calls by chance (the same ones each time), each answer compared with the plain model's. */
public final class ModelTest {
    private static final String[] CALLS = {"setRoads", "setDepot", "addHome", "order", "addLocker", "addVan",
        "addParcel", "home", "locker", "parcel", "put", "take", "route", "van", "stop", "adds", "cheapest", "plan",
        "improve", "move", "count", "drive", "foresee", "hour", "mean", "digest"};
    // How often each of them is called; those that fill the object come first in a run.
    private static final int[] OFTEN = {3, 1, 1, 4, 1, 1, 4, 2, 2, 4, 16, 6, 2, 10, 10, 8, 4, 3, 4, 6, 4, 5, 6, 1, 1, 3};

    private final Random chance;
    private final int spread;
    private final Both both = new Both();
    private final Model m = both.m;
    private final int[] a = both.a;

    private ModelTest(long seed) {
        chance = new Random(seed);
        spread = new int[] {6, 15, 30, 60}[chance.nextInt(4)];
    }

    public static void main(String[] args) {
        int runs = args.length > 0 ? Integer.parseInt(args[0]) : 500;
        for (int seed = 1; seed <= runs; seed++) {
            new ModelTest(seed).run(seed);
        }
        Check.end();
    }

    private void run(int seed) {
        StringBuilder told = new StringBuilder();
        int filling = 40 + chance.nextInt(60);
        int calls = filling + 60 + chance.nextInt(200);
        for (int i = 0; i < calls; i++) {
            String name = i < filling ? CALLS[chance.nextInt(7)] : chosen();
            arguments(name);
            String got = both.ofClass(name);
            String want = both.ofModel(name);
            told.append(name).append(java.util.Arrays.toString(a)).append(" = ").append(got).append('\n');
            Check.due("run " + seed + ", call " + i + ", " + name + ": " + got + ", due is " + want, got.equals(want));
            if (!got.equals(want)) {
                return;
            }
            if (i % 8 == 0 || i == calls - 1) {
                Check.due("run " + seed + ", digest behind call " + i + ", " + name, both.x.digest(), m.digest());
            }
        }
    }

    private String chosen() {
        int sum = 0;
        for (int often : OFTEN) sum += often;
        int left = chance.nextInt(sum);
        int i = 0;
        while (left >= OFTEN[i]) left -= OFTEN[i++];
        return CALLS[i];
    }

    /** Mostly from least to most, now and then beside it, or far from it. */
    private int number(int least, int most) {
        int lot = chance.nextInt(200);
        if (lot == 0) return least - 1;
        if (lot == 1) return most + 1;
        if (lot == 2) return chance.nextInt();
        if (lot == 3) return Integer.MIN_VALUE;
        if (lot == 4) return Integer.MAX_VALUE;
        return most < least ? least : least + chance.nextInt(most - least + 1);
    }

    private int coordinate() {
        int corner = (60 - spread) / 2;
        return chance.nextInt(12) == 0 ? number(0, 60) : number(corner, corner + spread);
    }

    private int hours() {
        switch (chance.nextInt(4)) {
            case 0: return 0;
            case 1: return number(0, (1 << 24) - 1);
            case 2: return chance.nextInt(1 << 24) & chance.nextInt(1 << 24);
            default: return (1 << 24) - 1 & ~chance.nextInt(1 << 24) | 1 << chance.nextInt(24);
        }
    }

    private void set(int... values) {
        for (int i = 0; i < 5; i++) a[i] = i < values.length ? values[i] : 0;
    }

    private int stopsOf(int van) {
        return van >= 0 && van < m.vans.size() ? m.vans.get(van).route.size() : 0;
    }

    private void arguments(String name) {
        int home = number(0, m.homes.size() - 1);
        int locker = number(0, m.lockers.size() - 1);
        int parcel = number(0, m.parcels.size() - 1);
        int van = number(0, m.vans.size() - 1);
        int start = number(0, chance.nextInt(3) == 0 ? 1439 : 800);
        int end = number(start, Math.min(1439, start + 400));
        switch (name) {
            case "setRoads": set(number(0, 23), number(5, 30)); break;
            case "setDepot": set(coordinate(), coordinate()); break;
            case "addHome": set(coordinate(), coordinate(), hours()); break;
            case "order":
                int isLocker = chance.nextInt(2);
                set(home, isLocker, isLocker == 1 ? locker : number(0, m.homes.size() - 1));
                break;
            case "addLocker": set(coordinate(), coordinate(), number(0, 9) / 3, number(0, 9) / 3, number(0, 9)); break;
            case "addVan": set(number(10, 200), start, end); break;
            case "addParcel":
                set(number(0, 2), chance.nextInt(3) > 0 ? number(1, 16) : number(1, 40), home, start, end);
                break;
            case "home": set(home, number(0, 5)); break;
            case "locker": set(locker, number(0, 5)); break;
            case "parcel": set(parcel, number(0, 8)); break;
            case "put": case "adds": set(parcel, van, number(0, stopsOf(van))); break;
            case "route": set(van, number(0, stopsOf(van) - 1)); break;
            case "van": set(van, number(0, 9)); break;
            case "stop": set(van, number(0, stopsOf(van) - 1), number(0, 3)); break;
            case "take": case "cheapest": set(parcel); break;
            case "improve": set(van); break;
            case "count": set(number(0, 11)); break;
            case "foresee": set(number(0, 2)); break;
            case "hour": set(home); break;
            default: set();
        }
    }
}
