/** Promises 1 to 8: what there is. */
public final class WhatThereIsTest {
    private static final int ALL_DAY = 0xFFFFFF;
    private static final int[] FAR = {Integer.MIN_VALUE, -1000, 1000000000, Integer.MAX_VALUE};

    public static void main(String[] args) {
        newObject();
        setRoads();
        setDepot();
        addHome();
        order();
        orderRefused();
        addLocker();
        addVan();
        addParcel();
        addParcelRefused();
        Check.end();
    }

    private static void newObject() {
        LastMile x = new LastMile();
        for (int what = 0; what < 12; what++) {
            Check.due("promise 1: count(" + what + ")", x.count(what), 0);
        }
        Check.due("promise 1: mean()", x.mean(), 0.0);
        Check.due("promise 1: plan()", x.plan(), 0);
        Check.due("promise 1: move()", x.move(), 0);
        Check.due("promise 1: foresee(0)", x.foresee(0), 0);
        Check.due("promise 1: foresee(1)", x.foresee(1), 0);
        Check.due("promise 1: foresee(2)", x.foresee(2), 0);
        Check.index("promise 1: home(0, 0)", x, () -> x.home(0, 0));
        Check.index("promise 1: locker(0, 0)", x, () -> x.locker(0, 0));
        Check.index("promise 1: van(0, 0)", x, () -> x.van(0, 0));
        Check.index("promise 1: parcel(0, 0)", x, () -> x.parcel(0, 0));
        LastMile other = new LastMile();
        other.addHome(1, 1, 1);
        other.setRoads(0, 30);
        Check.due("promise 1: another object is another one", x.count(1), 0);
        Check.due("promise 1: another object has other roads", x.setRoads(0, 10), 10);
    }

    private static void setRoads() {
        LastMile x = new LastMile();
        for (int hour = 0; hour < 24; hour++) {
            int slow = hour == 0 ? 5 : hour == 23 ? 30 : 6 + hour;
            Check.due("promise 2: at first, hour " + hour, x.setRoads(hour, slow), 10);
        }
        Check.due("promise 2: told back", x.setRoads(0, 10), 5);
        Check.due("promise 2: told back", x.setRoads(23, 10), 30);
        Check.due("promise 2: told back", x.setRoads(7, 10), 13);
        for (int hour : new int[] {-1, 24, 240, Integer.MIN_VALUE, Integer.MAX_VALUE}) {
            Check.index("promise 2: hour " + hour, x, () -> x.setRoads(hour, 10));
            Check.index("promise 2: hour " + hour + " ahead of slow", x, () -> x.setRoads(hour, 31));
        }
        for (int slow : new int[] {4, 31, 0, -5, Integer.MIN_VALUE, Integer.MAX_VALUE}) {
            Check.argument("promise 2: slow " + slow, x, () -> x.setRoads(7, slow));
        }
        roadsAreGone();
    }

    /** The table of the hour in which a way begins counts, and minutes are rounded up. */
    private static void roadsAreGone() {
        LastMile x = new LastMile();
        x.addHome(37, 30, ALL_DAY);
        x.addVan(100, 475, 1439);
        x.addParcel(0, 1, 0, 0, 1439);
        x.setRoads(7, 15);
        x.setRoads(8, 21);
        Check.due("promise 2: ways", x.put(0, 0, 0), 11 + 15);
        Check.due("promise 2: 7 * 15 / 10, up", x.stop(0, 0, 0), 475 + 11);
        Check.due("promise 2: 7 * 21 / 10, up", x.van(0, 7), 475 + 11 + 4 + 15);
        x.setRoads(8, 20);
        Check.due("promise 2: 7 * 20 / 10", x.van(0, 5), 11 + 14);
        x.setRoads(7, 20);
        x.setRoads(8, 30);
        Check.due("promise 2: the way begins in hour 7, and ends in it", x.stop(0, 0, 0), 489);
    }

    private static void setDepot() {
        LastMile x = new LastMile();
        Check.due("promise 3: at first", x.setDepot(0, 60), 3030);
        Check.due("promise 3: told back", x.setDepot(60, 0), 60);
        Check.due("promise 3: told back", x.setDepot(12, 34), 6000);
        Check.due("promise 3: told back", x.setDepot(12, 34), 1234);
        for (int wrong : new int[] {-1, 61, Integer.MIN_VALUE, Integer.MAX_VALUE}) {
            Check.argument("promise 3: x " + wrong, x, () -> x.setDepot(wrong, 5));
            Check.argument("promise 3: y " + wrong, x, () -> x.setDepot(5, wrong));
        }
        x.addHome(20, 34, ALL_DAY);
        x.addVan(10, 0, 1439);
        x.addParcel(0, 1, 0, 0, 1439);
        Check.due("promise 3: ways from it and back", x.put(0, 0, 0), 16);
        x.setDepot(20, 30);
        Check.due("promise 3: routes that there are go by it", x.van(0, 4), 8);
    }

    private static void addHome() {
        LastMile x = new LastMile();
        for (int i = 0; i < 15; i++) {
            Check.due("promise 4: number " + i, x.addHome(i, 60 - i, i), i);
        }
        for (int wrong : new int[] {-1, 61, Integer.MIN_VALUE, Integer.MAX_VALUE}) {
            Check.argument("promise 4: x " + wrong, x, () -> x.addHome(wrong, 0, 0));
            Check.argument("promise 4: y " + wrong, x, () -> x.addHome(0, wrong, 0));
        }
        for (int wrong : new int[] {-1, 1 << 24, Integer.MIN_VALUE, Integer.MAX_VALUE}) {
            Check.argument("promise 4: hours " + wrong, x, () -> x.addHome(0, 0, wrong));
        }
        Check.due("promise 4: the last one", x.addHome(60, 0, ALL_DAY), 15);
        Check.due("promise 4: its x", x.home(15, 0), 60);
        Check.due("promise 4: its y", x.home(15, 1), 0);
        Check.due("promise 4: its hours", x.home(15, 2), ALL_DAY);
        Check.state("promise 4: 17 homes", x, () -> x.addHome(0, 0, 0));
        Check.argument("promise 4: a wrong one ahead of too many", x, () -> x.addHome(0, 61, 0));
        Check.argument("promise 4: wrong hours ahead of too many", x, () -> x.addHome(0, 0, -1));
    }

    private static void order() {
        LastMile x = new LastMile();
        for (int i = 0; i < 3; i++) {
            x.addHome(i, i, 0);
        }
        x.addLocker(0, 0, 1, 1, 1);
        Check.due("promise 5: the first", x.order(0, false, 2), 1);
        Check.due("promise 5: the second, the same", x.order(0, false, 2), 2);
        Check.due("promise 5: the third, a locker of the home's number", x.order(0, true, 0), 3);
        Check.due("promise 5: another home's first", x.order(1, false, 0), 1);
        Check.state("promise 5: a fourth", x, () -> x.order(0, false, 1));
        Check.state("promise 5: a fourth, a locker", x, () -> x.order(0, true, 0));
        Check.argument("promise 5: its own neighbour ahead of a fourth", x, () -> x.order(0, false, 0));
        Check.index("promise 5: no such neighbour ahead of a fourth", x, () -> x.order(0, false, 3));
    }

    private static void orderRefused() {
        LastMile x = new LastMile();
        x.addHome(0, 0, 0);
        x.addHome(1, 1, 0);
        Check.index("promise 5: no lockers", x, () -> x.order(0, true, 0));
        x.addLocker(0, 0, 1, 1, 1);
        for (int wrong : new int[] {-1, 2, Integer.MIN_VALUE, Integer.MAX_VALUE}) {
            Check.index("promise 5: home " + wrong, x, () -> x.order(wrong, false, 0));
            Check.index("promise 5: home, its own neighbour " + wrong, x, () -> x.order(wrong, false, wrong));
            Check.index("promise 5: neighbour " + wrong, x, () -> x.order(0, false, wrong));
            Check.index("promise 5: locker " + wrong, x, () -> x.order(0, true, wrong));
        }
        Check.index("promise 5: locker 1", x, () -> x.order(0, true, 1));
        Check.argument("promise 5: its own neighbour", x, () -> x.order(1, false, 1));
        Check.due("promise 5: none was given", x.home(0, 3) + x.home(1, 3), 0);
    }

    private static void addLocker() {
        LastMile x = new LastMile();
        for (int i = 0; i < 4; i++) {
            if (i == 3) {
                refusedLockers(x);
            }
            Check.due("promise 6: number " + i, x.addLocker(i, 60, 0, i, 9), i);
        }
        Check.due("promise 6: x", x.locker(2, 0), 2);
        Check.due("promise 6: y", x.locker(2, 1), 60);
        Check.due("promise 6: small", x.locker(2, 2), 0);
        Check.due("promise 6: middle", x.locker(2, 3), 2);
        Check.due("promise 6: large", x.locker(2, 4), 9);
        Check.state("promise 6: a fifth", x, () -> x.addLocker(0, 0, 0, 0, 0));
        Check.argument("promise 6: a wrong one ahead of a fifth", x, () -> x.addLocker(0, 0, 0, 0, 10));
    }

    private static void refusedLockers(LastMile x) {
        for (int wrong : new int[] {-1, 61, Integer.MIN_VALUE, Integer.MAX_VALUE}) {
            Check.argument("promise 6: x " + wrong, x, () -> x.addLocker(wrong, 0, 0, 0, 0));
            Check.argument("promise 6: y " + wrong, x, () -> x.addLocker(0, wrong, 0, 0, 0));
        }
        for (int wrong : new int[] {-1, 10, Integer.MIN_VALUE, Integer.MAX_VALUE}) {
            Check.argument("promise 6: small " + wrong, x, () -> x.addLocker(0, 0, wrong, 0, 0));
            Check.argument("promise 6: middle " + wrong, x, () -> x.addLocker(0, 0, 0, wrong, 0));
            Check.argument("promise 6: large " + wrong, x, () -> x.addLocker(0, 0, 0, 0, wrong));
        }
    }

    private static void addVan() {
        LastMile x = new LastMile();
        Check.due("promise 7: number", x.addVan(10, 0, 0), 0);
        Check.due("promise 7: number", x.addVan(200, 1439, 1439), 1);
        Check.due("promise 7: number", x.addVan(77, 480, 1000), 2);
        Check.due("promise 7: room", x.van(1, 0), 200);
        Check.due("promise 7: start", x.van(2, 1), 480);
        Check.due("promise 7: end", x.van(2, 2), 1000);
        for (int wrong : FAR) {
            Check.argument("promise 7: room " + wrong, x, () -> x.addVan(wrong, 0, 0));
            Check.argument("promise 7: start " + wrong, x, () -> x.addVan(10, wrong, 0));
            Check.argument("promise 7: end " + wrong, x, () -> x.addVan(10, 0, wrong));
            Check.argument("promise 7: start and end " + wrong, x, () -> x.addVan(10, wrong, wrong));
        }
        Check.argument("promise 7: room 9", x, () -> x.addVan(9, 0, 0));
        Check.argument("promise 7: room 201", x, () -> x.addVan(201, 0, 0));
        Check.argument("promise 7: start -1", x, () -> x.addVan(10, -1, 5));
        Check.argument("promise 7: start 1440", x, () -> x.addVan(10, 1440, 1440));
        Check.argument("promise 7: end 1440", x, () -> x.addVan(10, 1439, 1440));
        Check.argument("promise 7: end ahead of start", x, () -> x.addVan(10, 500, 499));
        Check.due("promise 7: the last one", x.addVan(10, 3, 4), 3);
        Check.state("promise 7: a fifth", x, () -> x.addVan(10, 0, 0));
        Check.argument("promise 7: a wrong one ahead of a fifth", x, () -> x.addVan(10, 5, 4));
    }

    private static void addParcel() {
        LastMile x = new LastMile();
        x.addHome(0, 0, 0);
        x.addHome(1, 1, 0);
        for (int i = 0; i < 30; i++) {
            Check.due("promise 8: number " + i, x.addParcel(i % 3, i + 1, i % 2, i, 1439), i);
        }
        Check.due("promise 8: it waits", x.parcel(29, 6), 0);
        Check.due("promise 8: its kind", x.parcel(29, 0), 2);
        Check.due("promise 8: its volume", x.parcel(29, 1), 30);
        Check.due("promise 8: its home", x.parcel(29, 2), 1);
        Check.due("promise 8: its window begins", x.parcel(29, 3), 29);
        Check.due("promise 8: its window ends", x.parcel(29, 4), 1439);
        Check.state("promise 8: a 31st", x, () -> x.addParcel(0, 1, 0, 0, 0));
        Check.index("promise 8: no such home ahead of a 31st", x, () -> x.addParcel(0, 1, 2, 0, 0));
        Check.argument("promise 8: a wrong one ahead of a 31st", x, () -> x.addParcel(0, 0, 0, 0, 0));
    }

    private static void addParcelRefused() {
        LastMile x = new LastMile();
        Check.index("promise 8: no homes", x, () -> x.addParcel(0, 1, 0, 0, 0));
        x.addHome(0, 0, 0);
        for (int wrong : FAR) {
            Check.argument("promise 8: kind " + wrong, x, () -> x.addParcel(wrong, 1, 0, 0, 0));
            Check.argument("promise 8: volume " + wrong, x, () -> x.addParcel(0, wrong, 0, 0, 0));
            Check.index("promise 8: home " + wrong, x, () -> x.addParcel(0, 1, wrong, 0, 0));
            Check.argument("promise 8: from " + wrong, x, () -> x.addParcel(0, 1, 0, wrong, 5));
            Check.argument("promise 8: till " + wrong, x, () -> x.addParcel(0, 1, 0, 0, wrong));
        }
        Check.argument("promise 8: kind -1", x, () -> x.addParcel(-1, 1, 0, 0, 0));
        Check.argument("promise 8: kind 3", x, () -> x.addParcel(3, 1, 0, 0, 0));
        Check.argument("promise 8: volume 0", x, () -> x.addParcel(0, 0, 0, 0, 0));
        Check.argument("promise 8: volume 41", x, () -> x.addParcel(0, 41, 0, 0, 0));
        Check.argument("promise 8: from -1", x, () -> x.addParcel(0, 1, 0, -1, 0));
        Check.argument("promise 8: from 1440", x, () -> x.addParcel(0, 1, 0, 1440, 1440));
        Check.argument("promise 8: till 1440", x, () -> x.addParcel(0, 1, 0, 1439, 1440));
        Check.argument("promise 8: till ahead of from", x, () -> x.addParcel(0, 1, 0, 9, 8));
        Check.index("promise 8: home -1", x, () -> x.addParcel(0, 1, -1, 0, 0));
        Check.index("promise 8: home 1", x, () -> x.addParcel(0, 1, 1, 0, 0));
        Check.argument("promise 8: kind ahead of home", x, () -> x.addParcel(3, 1, 1, 0, 0));
        Check.argument("promise 8: till ahead of home", x, () -> x.addParcel(0, 1, 1, 9, 8));
        Check.due("promise 8: volume 40, the whole day", x.addParcel(2, 40, 0, 0, 1439), 0);
        Check.due("promise 8: a window of one minute", x.addParcel(0, 1, 0, 1439, 1439), 1);
    }
}
