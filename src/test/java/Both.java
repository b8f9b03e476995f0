/** An object of the class beside the plain model: the same calls, by their names, go to both. */
final class Both {
    final LastMile x = new LastMile();
    final Model m = new Model();
    /** The arguments of the next call; 1 stands for true. */
    final int[] a = new int[5];

    String ofClass(String name) {
        try {
            return String.valueOf(called(name));
        } catch (RuntimeException e) {
            return e.getClass().getName();
        }
    }

    String ofModel(String name) {
        try {
            return String.valueOf(modelled(name));
        } catch (RuntimeException e) {
            return e.getClass().getName();
        }
    }

    private Object called(String name) {
        switch (name) {
            case "setRoads": return x.setRoads(a[0], a[1]);
            case "setDepot": return x.setDepot(a[0], a[1]);
            case "addHome": return x.addHome(a[0], a[1], a[2]);
            case "order": return x.order(a[0], a[1] == 1, a[2]);
            case "addLocker": return x.addLocker(a[0], a[1], a[2], a[3], a[4]);
            case "addVan": return x.addVan(a[0], a[1], a[2]);
            case "addParcel": return x.addParcel(a[0], a[1], a[2], a[3], a[4]);
            case "home": return x.home(a[0], a[1]);
            case "locker": return x.locker(a[0], a[1]);
            case "parcel": return x.parcel(a[0], a[1]);
            case "put": return x.put(a[0], a[1], a[2]);
            case "take": return x.take(a[0]);
            case "route": return x.route(a[0], a[1]);
            case "van": return x.van(a[0], a[1]);
            case "stop": return x.stop(a[0], a[1], a[2]);
            case "adds": return x.adds(a[0], a[1], a[2]);
            case "cheapest": return x.cheapest(a[0]);
            case "plan": return x.plan();
            case "improve": return x.improve(a[0]);
            case "move": return x.move();
            case "count": return x.count(a[0]);
            case "drive": return x.drive();
            case "foresee": return x.foresee(a[0]);
            case "hour": return x.hour(a[0]);
            case "mean": return x.mean();
            default: return x.digest();
        }
    }

    private Object modelled(String name) {
        switch (name) {
            case "setRoads": return m.setRoads(a[0], a[1]);
            case "setDepot": return m.setDepot(a[0], a[1]);
            case "addHome": return m.addHome(a[0], a[1], a[2]);
            case "order": return m.order(a[0], a[1] == 1, a[2]);
            case "addLocker": return m.addLocker(a[0], a[1], a[2], a[3], a[4]);
            case "addVan": return m.addVan(a[0], a[1], a[2]);
            case "addParcel": return m.addParcel(a[0], a[1], a[2], a[3], a[4]);
            case "home": return m.home(a[0], a[1]);
            case "locker": return m.locker(a[0], a[1]);
            case "parcel": return m.parcel(a[0], a[1]);
            case "put": return m.put(a[0], a[1], a[2]);
            case "take": return m.take(a[0]);
            case "route": return m.route(a[0], a[1]);
            case "van": return m.van(a[0], a[1]);
            case "stop": return m.stop(a[0], a[1], a[2]);
            case "adds": return m.adds(a[0], a[1], a[2]);
            case "cheapest": return m.cheapest(a[0]);
            case "plan": return m.plan();
            case "improve": return m.improve(a[0]);
            case "move": return m.move();
            case "count": return m.count(a[0]);
            case "drive": return m.drive();
            case "foresee": return m.foresee(a[0]);
            case "hour": return m.hour(a[0]);
            case "mean": return m.mean();
            default: return m.digest();
        }
    }
}
