/** Promises 9 to 11: what is told of homes, lockers and parcels. */
public final class WhatIsToldTest {
    private static final int ALL_DAY = 0xFFFFFF;
    private static final int[] WRONG = {-1, 99, Integer.MIN_VALUE, Integer.MAX_VALUE};

    public static void main(String[] args) {
        home();
        locker();
        parcel();
        Check.end();
    }

    /**
     * Nobody is in home 0, at (30, 40); home 1 at (32, 44) is a neighbour at the distance 6; the locker at (30, 28) is
     * at the distance 12 of home 0.
     */
    private static LastMile told() {
        LastMile x = new LastMile();
        x.addHome(30, 40, 0);
        x.addHome(32, 44, ALL_DAY);
        x.addLocker(30, 28, 1, 1, 1);
        x.order(0, true, 0);
        x.order(0, false, 1);
        x.addVan(100, 480, 1000);
        x.addParcel(0, 14, 0, 500, 600);
        x.addParcel(1, 20, 0, 501, 601);
        x.addParcel(0, 30, 1, 502, 602);
        x.addParcel(2, 7, 0, 503, 603);
        for (int i = 0; i < 4; i++) {
            x.put(i, 0, i);
        }
        return x;
    }

    private static void home() {
        LastMile x = told();
        int[] before = {30, 40, 0, 2, 3, 0};
        for (int what = 0; what < 6; what++) {
            Check.due("promise 9: home(0, " + what + ")", x.home(0, what), before[what]);
        }
        Check.due("promise 9: drive()", x.drive(), 3);
        int[] behind = {30, 40, 0, 2, 1, 0};
        int[] neighbour = {32, 44, ALL_DAY, 0, 0, 1};
        for (int what = 0; what < 6; what++) {
            Check.due("promise 9: behind the day, home(0, " + what + ")", x.home(0, what), behind[what]);
            Check.due("promise 9: behind the day, home(1, " + what + ")", x.home(1, what), neighbour[what]);
        }
        for (int wrong : WRONG) {
            Check.index("promise 9: home " + wrong, x, () -> x.home(wrong, 0));
            Check.index("promise 9: what " + wrong, x, () -> x.home(0, wrong));
        }
        Check.index("promise 9: home 2", x, () -> x.home(2, 0));
        Check.index("promise 9: what 6", x, () -> x.home(0, 6));
    }

    private static void locker() {
        LastMile x = told();
        int[] before = {30, 28, 1, 1, 1, 0};
        for (int what = 0; what < 6; what++) {
            Check.due("promise 10: locker(0, " + what + ")", x.locker(0, what), before[what]);
        }
        x.addLocker(1, 2, 3, 4, 5);
        x.drive();
        int[] behind = {30, 28, 1, 0, 1, 1};
        int[] other = {1, 2, 3, 4, 5, 0};
        for (int what = 0; what < 6; what++) {
            Check.due("promise 10: behind the day, locker(0, " + what + ")", x.locker(0, what), behind[what]);
            Check.due("promise 10: the other one, locker(1, " + what + ")", x.locker(1, what), other[what]);
        }
        for (int wrong : WRONG) {
            Check.index("promise 10: locker " + wrong, x, () -> x.locker(wrong, 0));
            Check.index("promise 10: what " + wrong, x, () -> x.locker(0, wrong));
        }
        Check.index("promise 10: locker 2", x, () -> x.locker(2, 0));
        Check.index("promise 10: what 6", x, () -> x.locker(0, 6));
    }

    private static void parcel() {
        LastMile x = told();
        x.addHome(0, 0, 0);
        x.addParcel(2, 40, 2, 0, 1439);
        facts(x, 0, 0, 14, 0, 500, 600, 0, 0, 0, -1);
        facts(x, 4, 2, 40, 2, 0, 1439, 0, 0, -1, -1);
        x.drive();
        facts(x, 0, 0, 14, 0, 500, 600, 1, 2, -1, 0);
        facts(x, 1, 1, 20, 0, 501, 601, 1, 3, -1, 1);
        facts(x, 2, 0, 30, 1, 502, 602, 0, 1, -1, -1);
        facts(x, 3, 2, 7, 0, 503, 603, 1, 0, -1, -1);
        for (int day = 0; day < 2; day++) {
            x.put(3, 0, 0);
            x.drive();
        }
        facts(x, 3, 2, 7, 0, 503, 603, 3, 4, -1, -1);
        facts(x, 0, 0, 14, 0, 500, 600, 1, 4, -1, -1);
        for (int wrong : WRONG) {
            Check.index("promise 11: parcel " + wrong, x, () -> x.parcel(wrong, 0));
            Check.index("promise 11: what " + wrong, x, () -> x.parcel(0, wrong));
        }
        Check.index("promise 11: parcel 5", x, () -> x.parcel(5, 0));
        Check.index("promise 11: what 9", x, () -> x.parcel(0, 9));
    }

    private static void facts(LastMile x, int parcel, int... due) {
        for (int what = 0; what < 9; what++) {
            Check.due("promise 11: parcel(" + parcel + ", " + what + ")", x.parcel(parcel, what), due[what]);
        }
    }
}
