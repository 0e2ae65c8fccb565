/** One method for each promise of the document: ordinary inputs, edges, and wrong inputs. */
public final class FerryRightsPromises {
    private static final Class<?> PLACE = IndexOutOfBoundsException.class;
    private static final Class<?> VALUE = IllegalArgumentException.class;
    private static final Class<?> STATE = IllegalStateException.class;
    private static final int[] FAR = {Integer.MIN_VALUE, -1000, -1, 100000, Integer.MAX_VALUE};

    private static int wrong = 0;
    private static int promise = 0;

    private interface Call {
        double answer();
    }

    private static void fail(String text) {
        wrong++;
        System.out.println("promise " + promise + ": " + text);
    }

    private static void due(String call, double got, double want) {
        if (got != want) {
            fail(call + " answered " + got + ", due is " + want);
        }
    }

    private static void due(String call, boolean got, boolean want) {
        if (got != want) {
            fail(call + " answered " + got + ", due is " + want);
        }
    }

    /** The call throws exactly this exception and changes nothing that the digest tells. */
    private static void refused(String call, Class<?> want, FerryRights x, Call made) {
        long before = x.digest();
        Class<?> got = null;
        try {
            made.answer();
        } catch (RuntimeException e) {
            got = e.getClass();
        }
        if (got != want) {
            fail(call + " threw " + got + ", due is " + want);
        }
        due(call + " changed something: digest()", x.digest() == before, true);
    }

    private static double asNumber(boolean so) {
        return so ? 1 : 0;
    }

    /** Ferries 0 (toll 3), 1 (toll 20); people 0, its children 1, 2, 3, and 4 without a parent. */
    private static FerryRights river() {
        FerryRights x = new FerryRights();
        x.addFerry(3);
        x.addFerry(20);
        x.addPerson();
        x.addChild(0);
        x.addChild(0);
        x.addChild(0);
        x.addPerson();
        return x;
    }

    /** 6 ferries of toll 1, and 12 people: 0 and its 11 children. */
    private static FerryRights full() {
        FerryRights x = new FerryRights();
        for (int i = 0; i < 6; i++) {
            x.addFerry(1);
        }
        x.addPerson();
        for (int i = 1; i < 12; i++) {
            x.addChild(0);
        }
        return x;
    }

    private static FerryRights crowd(int people) {
        FerryRights x = new FerryRights();
        x.addFerry(3);
        for (int i = 0; i < people; i++) {
            x.addPerson();
        }
        return x;
    }

    private static void newObject() {
        FerryRights x = new FerryRights();
        due("ferries()", x.ferries(), 0);
        due("people()", x.people(), 0);
        due("living()", x.living(), 0);
        due("crownCoins()", x.crownCoins(), 0);
        refused("toll(0)", PLACE, x, () -> x.toll(0));
        refused("coins(0)", PLACE, x, () -> x.coins(0));
        FerryRights y = new FerryRights();
        y.addPerson();
        y.addFerry(1);
        due("people() of another object", x.people(), 0);
        due("ferries() of another object", x.ferries(), 0);
    }

    private static void addFerry() {
        FerryRights x = new FerryRights();
        refused("addFerry(-1)", VALUE, x, () -> x.addFerry(-1));
        refused("addFerry(21)", VALUE, x, () -> x.addFerry(21));
        for (int far : FAR) {
            refused("addFerry(" + far + ")", VALUE, x, () -> x.addFerry(far));
        }
        int[] tolls = {0, 20, 1, 19, 7, 3};
        for (int i = 0; i < 6; i++) {
            due("addFerry(" + tolls[i] + ")", x.addFerry(tolls[i]), i);
        }
        for (int i = 0; i < 6; i++) {
            due("toll(" + i + ")", x.toll(i), tolls[i]);
            due("crownShares(" + i + ", 3)", x.crownShares(i, 3), 64);
        }
        refused("addFerry(5), the 7th", STATE, x, () -> x.addFerry(5));
        refused("addFerry(21), the 7th", VALUE, x, () -> x.addFerry(21));
        due("ferries()", x.ferries(), 6);
    }

    private static void addPerson() {
        FerryRights x = new FerryRights();
        for (int i = 0; i < 12; i++) {
            due("addPerson()", x.addPerson(), i);
            due("isAlive", x.isAlive(i), true);
            due("hasParent", x.hasParent(i), false);
            due("coins", x.coins(i), 0);
        }
        refused("addPerson(), the 13th", STATE, x, x::addPerson);
        x.die(3);
        refused("addPerson(), the 13th, one being dead", STATE, x, x::addPerson);
        due("people()", x.people(), 12);
    }

    private static void addChild() {
        FerryRights x = river();
        due("addChild(4)", x.addChild(4), 5);
        due("addChild(5)", x.addChild(5), 6);
        due("parent(6)", x.parent(6), 5);
        due("isAlive(6)", x.isAlive(6), true);
        due("coins(6)", x.coins(6), 0);
        refused("addChild(7)", PLACE, x, () -> x.addChild(7));
        for (int far : FAR) {
            refused("addChild(" + far + ")", PLACE, x, () -> x.addChild(far));
        }
        x.die(4);
        refused("addChild(4) of a dead one", STATE, x, () -> x.addChild(4));
        for (int i = 7; i < 12; i++) {
            due("addChild(1)", x.addChild(1), i);
        }
        refused("addChild(1), the 13th", STATE, x, () -> x.addChild(1));
        refused("addChild(12), the 13th", PLACE, x, () -> x.addChild(12));
    }

    private static void pay() {
        FerryRights x = river();
        due("pay(1, 1)", x.pay(1, 1), 1);
        due("pay(1, 9997)", x.pay(1, 9997), 9998);
        due("pay(1, 1)", x.pay(1, 1), 9999);
        due("pay(1, 1) beyond 9999", x.pay(1, 1), 9999);
        due("pay(1, 9999) beyond 9999", x.pay(1, 9999), 9999);
        due("pay(2, 9999)", x.pay(2, 9999), 9999);
        due("coins(1)", x.coins(1), 9999);
        due("coins(0)", x.coins(0), 0);
        due("earned(1)", x.earned(1), 0);
        refused("pay(0, 0)", VALUE, x, () -> x.pay(0, 0));
        refused("pay(0, 10000)", VALUE, x, () -> x.pay(0, 10000));
        refused("pay(5, 1)", PLACE, x, () -> x.pay(5, 1));
        refused("pay(5, 0)", PLACE, x, () -> x.pay(5, 0));
        x.die(4);
        refused("pay(4, 1) to a dead one", STATE, x, () -> x.pay(4, 1));
        refused("pay(4, 0) to a dead one", VALUE, x, () -> x.pay(4, 0));
        for (int far : FAR) {
            refused("pay(far, 1)", PLACE, x, () -> x.pay(far, 1));
            refused("pay(0, far)", VALUE, x, () -> x.pay(0, far));
        }
    }

    private static void grant() {
        FerryRights x = river();
        due("grant(0, 1, 2, 1)", x.grant(0, 1, 2, 1), 63);
        due("grant(0, 1, 3, 60)", x.grant(0, 1, 3, 60), 3);
        due("grant(1, 3, 2, 64)", x.grant(1, 3, 2, 64), 0);
        due("shares(0, 1, 2)", x.shares(0, 1, 2), 1);
        due("shares(0, 1, 3)", x.shares(0, 1, 3), 60);
        due("shares(1, 3, 2)", x.shares(1, 3, 2), 64);
        due("shares(0, 3, 2)", x.shares(0, 3, 2), 0);
        refused("grant beyond the crown's", STATE, x, () -> x.grant(0, 1, 2, 4));
        refused("grant from a crown without any", STATE, x, () -> x.grant(1, 3, 0, 1));
        due("grant of all that is left", x.grant(0, 1, 2, 3), 0);
        due("shares(0, 1, 2)", x.shares(0, 1, 2), 4);
        refused("grant of 0", VALUE, x, () -> x.grant(0, 0, 0, 0));
        refused("grant of 65", VALUE, x, () -> x.grant(0, 0, 0, 65));
        refused("grant(2, ..)", PLACE, x, () -> x.grant(2, 0, 0, 1));
        refused("grant(0, 4, ..)", PLACE, x, () -> x.grant(0, 4, 0, 1));
        refused("grant(0, 0, 5, ..)", PLACE, x, () -> x.grant(0, 0, 5, 1));
        refused("grant(0, 0, 5, 0)", PLACE, x, () -> x.grant(0, 0, 5, 0));
        x.die(4);
        refused("grant to a dead one", STATE, x, () -> x.grant(0, 0, 4, 1));
        refused("grant of 65 to a dead one", VALUE, x, () -> x.grant(0, 0, 4, 65));
        for (int far : FAR) {
            refused("grant(far, ..)", PLACE, x, () -> x.grant(far, 0, 0, 1));
            refused("grant(0, far, ..)", PLACE, x, () -> x.grant(0, far, 0, 1));
            refused("grant(0, 0, far, ..)", PLACE, x, () -> x.grant(0, 0, far, 1));
            refused("grant(0, 0, 0, far)", VALUE, x, () -> x.grant(0, 0, 0, far));
        }
    }

    private static void give() {
        FerryRights x = river();
        x.grant(1, 2, 0, 20);
        x.grant(1, 2, 1, 5);
        due("give(0, 1, 1, 2, 7)", x.give(0, 1, 1, 2, 7), 12);
        due("shares(1, 2, 0)", x.shares(1, 2, 0), 13);
        due("give of all", x.give(0, 4, 1, 2, 13), 13);
        due("shares(1, 2, 0)", x.shares(1, 2, 0), 0);
        due("crownShares(1, 2)", x.crownShares(1, 2), 39);
        refused("give of more than owned", STATE, x, () -> x.give(1, 0, 1, 2, 13));
        refused("give of another watch", STATE, x, () -> x.give(1, 0, 1, 1, 1));
        refused("give to oneself", VALUE, x, () -> x.give(1, 1, 1, 2, 1));
        refused("give of 0", VALUE, x, () -> x.give(1, 0, 1, 2, 0));
        refused("give of 65", VALUE, x, () -> x.give(1, 0, 1, 2, 65));
        refused("give(5, ..)", PLACE, x, () -> x.give(5, 0, 1, 2, 1));
        refused("give(1, 5, ..)", PLACE, x, () -> x.give(1, 5, 1, 2, 1));
        refused("give(1, 0, 2, ..)", PLACE, x, () -> x.give(1, 0, 2, 2, 1));
        refused("give(1, 0, 1, 4, ..)", PLACE, x, () -> x.give(1, 0, 1, 4, 1));
        refused("give(1, 1, 1, 4, 0)", PLACE, x, () -> x.give(1, 1, 1, 4, 0));
        x.die(3);
        refused("give to a dead one", STATE, x, () -> x.give(1, 3, 1, 2, 1));
        refused("give from a dead one", STATE, x, () -> x.give(3, 1, 1, 2, 1));
        refused("give of a dead one to itself", VALUE, x, () -> x.give(3, 3, 1, 2, 1));
        for (int far : FAR) {
            refused("give(far, ..)", PLACE, x, () -> x.give(far, 0, 1, 2, 1));
            refused("give(1, far, ..)", PLACE, x, () -> x.give(1, far, 1, 2, 1));
            refused("give(1, 0, far, ..)", PLACE, x, () -> x.give(1, 0, far, 2, 1));
            refused("give(1, 0, 1, far, ..)", PLACE, x, () -> x.give(1, 0, 1, far, 1));
            refused("give(.., far)", VALUE, x, () -> x.give(1, 0, 1, 2, far));
        }
    }

    private static void buy() {
        FerryRights x = river();
        x.grant(1, 3, 0, 10);
        x.pay(4, 209);
        refused("buy with a coin too few", STATE, x, () -> x.buy(4, 0, 1, 3));
        x.pay(4, 1);
        x.pay(0, 9900);
        due("buy(4, 0, 1, 3)", x.buy(4, 0, 1, 3), 210);
        due("coins(4)", x.coins(4), 0);
        due("coins(0), what is beyond 9999 being lost", x.coins(0), 9999);
        due("shares(1, 3, 4)", x.shares(1, 3, 4), 10);
        due("shares(1, 3, 0)", x.shares(1, 3, 0), 0);
        due("crownShares(1, 3)", x.crownShares(1, 3), 54);
        due("earned(0)", x.earned(0), 0);
        refused("buy where the seller has none", STATE, x, () -> x.buy(4, 0, 1, 3));
        refused("buy from oneself", STATE, x, () -> x.buy(4, 4, 1, 3));
        refused("buy(5, ..)", PLACE, x, () -> x.buy(5, 4, 1, 3));
        refused("buy(0, 5, ..)", PLACE, x, () -> x.buy(0, 5, 1, 3));
        refused("buy(0, 4, 2, ..)", PLACE, x, () -> x.buy(0, 4, 2, 3));
        refused("buy(0, 4, 1, 4)", PLACE, x, () -> x.buy(0, 4, 1, 4));
        for (int far : FAR) {
            refused("buy(far, ..)", PLACE, x, () -> x.buy(far, 4, 1, 3));
            refused("buy(0, far, ..)", PLACE, x, () -> x.buy(0, far, 1, 3));
            refused("buy(0, 4, far, 3)", PLACE, x, () -> x.buy(0, 4, far, 3));
            refused("buy(0, 4, 1, far)", PLACE, x, () -> x.buy(0, 4, 1, far));
        }
        buyOfCoOwners();
    }

    private static void buyOfCoOwners() {
        FerryRights x = crowd(5);
        x.grant(0, 1, 0, 10);
        x.grant(0, 1, 1, 4);
        x.grant(0, 1, 2, 1);
        x.pay(1, 130);
        x.pay(2, 129);
        x.pay(3, 500);
        refused("buy by one from outside, a co-owner having the price", STATE, x, () -> x.buy(3, 0, 0, 1));
        due("buy by a co-owner, another one having the price too", x.buy(1, 0, 0, 1), 130);
        due("shares(0, 1, 1)", x.shares(0, 1, 1), 14);
        x.pay(0, 182);
        due("buy by one from outside, no co-owner having the price", x.buy(3, 1, 0, 1), 182);
        due("coins(1)", x.coins(1), 182);
        due("coins(3)", x.coins(3), 318);
    }

    private static void setToll() {
        FerryRights x = river();
        x.grant(0, 0, 1, 64);
        x.grant(0, 1, 1, 64);
        refused("setToll with half of all", STATE, x, () -> x.setToll(0, 1, 5));
        x.grant(0, 2, 1, 1);
        due("setToll(0, 1, 5)", x.setToll(0, 1, 5), 3);
        due("setToll(0, 1, 0)", x.setToll(0, 1, 0), 5);
        due("setToll(0, 1, 20)", x.setToll(0, 1, 20), 0);
        due("toll(0)", x.toll(0), 20);
        due("toll(1)", x.toll(1), 20);
        refused("setToll by another one", STATE, x, () -> x.setToll(0, 2, 5));
        refused("setToll of another ferry", STATE, x, () -> x.setToll(1, 1, 5));
        refused("setToll(0, 1, -1)", VALUE, x, () -> x.setToll(0, 1, -1));
        refused("setToll(0, 1, 21)", VALUE, x, () -> x.setToll(0, 1, 21));
        refused("setToll(0, 2, 21)", VALUE, x, () -> x.setToll(0, 2, 21));
        refused("setToll(2, 1, 21)", PLACE, x, () -> x.setToll(2, 1, 21));
        refused("setToll(0, 5, 21)", PLACE, x, () -> x.setToll(0, 5, 21));
        for (int far : FAR) {
            refused("setToll(far, ..)", PLACE, x, () -> x.setToll(far, 1, 1));
            refused("setToll(0, far, 1)", PLACE, x, () -> x.setToll(0, far, 1));
            refused("setToll(0, 1, far)", VALUE, x, () -> x.setToll(0, 1, far));
        }
    }

    private static void carry() {
        FerryRights x = river();
        x.grant(0, 1, 0, 41);
        x.grant(0, 1, 1, 10);
        x.grant(0, 2, 2, 64);
        due("carry(0, 7, 10)", x.carry(0, 7, 10), 30 - 19 - 4);
        due("coins(0)", x.coins(0), 19);
        due("coins(1)", x.coins(1), 4);
        due("earned(1)", x.earned(1), 4);
        due("carry(0, 12, 5), the crown without shares", x.carry(0, 12, 5), 0);
        due("coins(2)", x.coins(2), 15);
        due("carry(0, 11, 1)", x.carry(0, 11, 1), 2);
        due("carry(0, 0, 200)", x.carry(0, 0, 200), 600);
        due("carry(1, 23, 200)", x.carry(1, 23, 200), 4000);
        due("crownCoins()", x.crownCoins(), 7 + 2 + 600 + 4000);
        due("carried(0)", x.carried(0), 216);
        due("carried(1)", x.carried(1), 200);
        x.pay(2, 9980);
        x.carry(0, 17, 2);
        due("coins(2), what is beyond 9999 being lost", x.coins(2), 9999);
        due("earned(2), what is lost as well", x.earned(2), 21);
        due("crownCoins() without what is lost", x.crownCoins(), 4609);
        refused("carry(2, 0, 1)", PLACE, x, () -> x.carry(2, 0, 1));
        refused("carry(0, 24, 0)", PLACE, x, () -> x.carry(0, 24, 0));
        refused("carry(0, -1, 1)", PLACE, x, () -> x.carry(0, -1, 1));
        refused("carry(0, 0, 0)", VALUE, x, () -> x.carry(0, 0, 0));
        refused("carry(0, 0, 201)", VALUE, x, () -> x.carry(0, 0, 201));
        for (int far : FAR) {
            refused("carry(far, ..)", PLACE, x, () -> x.carry(far, 0, 1));
            refused("carry(0, far, 1)", PLACE, x, () -> x.carry(0, far, 1));
            refused("carry(0, 0, far)", VALUE, x, () -> x.carry(0, 0, far));
        }
        FerryRights y = full();
        y.grant(5, 3, 11, 32);
        y.grant(5, 3, 0, 16);
        due("carry(5, 23, 8) of a full river", y.carry(5, 23, 8), 2);
        due("coins(11)", y.coins(11), 4);
        due("coins(0)", y.coins(0), 2);
    }

    private static void die() {
        FerryRights x = river();
        x.grant(0, 1, 0, 41);
        x.grant(1, 3, 0, 4);
        x.grant(1, 0, 0, 1);
        x.pay(0, 104);
        x.pay(1, 9990);
        due("die(0)", x.die(0), 3);
        due("isAlive(0)", x.isAlive(0), false);
        due("coins(0)", x.coins(0), 0);
        due("allShares(0)", x.allShares(0), 0);
        due("shares of the first heir", x.shares(0, 1, 1), 21);
        due("shares of the second heir", x.shares(0, 1, 2), 10);
        due("shares of the third heir", x.shares(0, 1, 3), 10);
        due("shares of the first heir", x.shares(1, 3, 1), 2);
        due("shares of the third heir", x.shares(1, 3, 3), 1);
        due("a single share goes to the first heir", x.shares(1, 0, 1), 1);
        due("crownShares(0, 1)", x.crownShares(0, 1), 23);
        due("coins of the first heir, what is beyond 9999 being lost", x.coins(1), 9999);
        due("coins of the second heir", x.coins(2), 26);
        due("coins of the third heir", x.coins(3), 26);
        due("crownCoins() without what is lost", x.crownCoins(), 0);
        due("earned(1)", x.earned(1), 0);
        refused("die(0) again", STATE, x, () -> x.die(0));
        refused("die(5)", PLACE, x, () -> x.die(5));
        for (int far : FAR) {
            refused("die(far)", PLACE, x, () -> x.die(far));
        }
        due("die(2) leaves to its siblings", x.die(2), 2);
        due("shares(0, 1, 1)", x.shares(0, 1, 1), 26);
        due("shares(0, 1, 3)", x.shares(0, 1, 3), 15);
        due("coins(3)", x.coins(3), 39);
        due("die(1) leaves to the last sibling", x.die(1), 1);
        due("shares(0, 1, 3)", x.shares(0, 1, 3), 41);
        due("coins(3)", x.coins(3), 9999);
        due("die(3) leaves to the crown", x.die(3), 0);
        due("crownShares(0, 1)", x.crownShares(0, 1), 64);
        due("crownShares(1, 3)", x.crownShares(1, 3), 64);
        due("crownCoins()", x.crownCoins(), 9999);
        due("living()", x.living(), 1);
        dieOfManyHeirs();
        dieInFullRiver();
    }

    private static void dieOfManyHeirs() {
        FerryRights x = new FerryRights();
        x.addFerry(1);
        x.addPerson();
        for (int i = 0; i < 6; i++) {
            x.addChild(0);
        }
        x.addChild(1);
        x.die(3);
        x.grant(0, 0, 0, 27);
        due("die(0)", x.die(0), 5);
        int[] want = {0, 14, 4, 0, 3, 3, 3, 0};
        for (int i = 0; i < want.length; i++) {
            due("shares(0, 0, " + i + ")", x.shares(0, 0, i), want[i]);
        }
    }

    private static void dieInFullRiver() {
        FerryRights x = full();
        x.grant(5, 3, 0, 64);
        x.grant(5, 0, 11, 7);
        x.pay(0, 25);
        due("die(0) in a full river", x.die(0), 11);
        int[] shares = {0, 32, 4, 4, 3, 3, 3, 3, 3, 3, 3, 3};
        int[] coins = {0, 13, 2, 2, 1, 1, 1, 1, 1, 1, 1, 1};
        for (int i = 0; i < 12; i++) {
            due("shares(5, 3, " + i + ")", x.shares(5, 3, i), shares[i]);
            due("coins(" + i + ")", x.coins(i), coins[i]);
        }
        for (int i = 1; i < 12; i++) {
            due("die(" + i + ")", x.die(i), 11 - i);
        }
        due("crownShares(5, 3)", x.crownShares(5, 3), 64);
        due("crownShares(5, 0)", x.crownShares(5, 0), 64);
        due("crownCoins()", x.crownCoins(), 25);
    }

    private static void ferries() {
        FerryRights x = new FerryRights();
        for (int i = 0; i < 6; i++) {
            due("ferries()", x.ferries(), i);
            x.addFerry(i);
        }
        due("ferries()", x.ferries(), 6);
    }

    private static void toll() {
        FerryRights x = river();
        due("toll(0)", x.toll(0), 3);
        due("toll(1)", x.toll(1), 20);
        refused("toll(2)", PLACE, x, () -> x.toll(2));
        for (int far : FAR) {
            refused("toll(far)", PLACE, x, () -> x.toll(far));
        }
    }

    private static void carried() {
        FerryRights x = river();
        due("carried(0)", x.carried(0), 0);
        x.carry(0, 3, 7);
        x.carry(0, 20, 200);
        due("carried(0)", x.carried(0), 207);
        due("carried(1)", x.carried(1), 0);
        refused("carried(2)", PLACE, x, () -> x.carried(2));
        for (int far : FAR) {
            refused("carried(far)", PLACE, x, () -> x.carried(far));
        }
    }

    private static void shares() {
        FerryRights x = river();
        x.grant(1, 2, 3, 9);
        for (int ferry = 0; ferry < 2; ferry++) {
            for (int watch = 0; watch < 4; watch++) {
                for (int person = 0; person < 5; person++) {
                    int want = ferry == 1 && watch == 2 && person == 3 ? 9 : 0;
                    due("shares(..)", x.shares(ferry, watch, person), want);
                }
            }
        }
        refused("shares(2, 0, 0)", PLACE, x, () -> x.shares(2, 0, 0));
        refused("shares(0, 4, 0)", PLACE, x, () -> x.shares(0, 4, 0));
        refused("shares(0, 0, 5)", PLACE, x, () -> x.shares(0, 0, 5));
        for (int far : FAR) {
            refused("shares(far, 0, 0)", PLACE, x, () -> x.shares(far, 0, 0));
            refused("shares(0, far, 0)", PLACE, x, () -> x.shares(0, far, 0));
            refused("shares(0, 0, far)", PLACE, x, () -> x.shares(0, 0, far));
        }
    }

    private static void crownShares() {
        FerryRights x = river();
        due("crownShares(0, 0)", x.crownShares(0, 0), 64);
        x.grant(0, 0, 1, 10);
        x.grant(0, 0, 2, 5);
        due("crownShares(0, 0)", x.crownShares(0, 0), 49);
        due("crownShares(0, 1)", x.crownShares(0, 1), 64);
        refused("crownShares(2, 0)", PLACE, x, () -> x.crownShares(2, 0));
        refused("crownShares(0, 4)", PLACE, x, () -> x.crownShares(0, 4));
        for (int far : FAR) {
            refused("crownShares(far, 0)", PLACE, x, () -> x.crownShares(far, 0));
            refused("crownShares(0, far)", PLACE, x, () -> x.crownShares(0, far));
        }
        FerryRights y = full();
        y.grant(5, 3, 0, 1);
        y.grant(5, 3, 11, 2);
        due("crownShares(5, 3) of a full river", y.crownShares(5, 3), 61);
    }

    private static void owners() {
        FerryRights x = river();
        due("owners(0, 0)", x.owners(0, 0), 0);
        x.grant(0, 0, 4, 1);
        x.grant(0, 0, 2, 63);
        due("owners(0, 0)", x.owners(0, 0), 2);
        due("owners(0, 1)", x.owners(0, 1), 0);
        due("owners(1, 0)", x.owners(1, 0), 0);
        x.die(4);
        due("owners(0, 0)", x.owners(0, 0), 1);
        refused("owners(2, 0)", PLACE, x, () -> x.owners(2, 0));
        refused("owners(0, 4)", PLACE, x, () -> x.owners(0, 4));
        for (int far : FAR) {
            refused("owners(far, 0)", PLACE, x, () -> x.owners(far, 0));
            refused("owners(0, far)", PLACE, x, () -> x.owners(0, far));
        }
        FerryRights y = full();
        y.grant(5, 3, 0, 1);
        y.grant(5, 3, 11, 2);
        due("owners(5, 3) of a full river", y.owners(5, 3), 2);
    }

    private static void holder() {
        FerryRights x = river();
        refused("holder(0, 0)", STATE, x, () -> x.holder(0, 0));
        x.grant(0, 0, 4, 1);
        due("holder(0, 0), less than the crown", x.holder(0, 0), 4);
        x.grant(0, 0, 1, 2);
        due("holder(0, 0)", x.holder(0, 0), 1);
        x.grant(0, 0, 3, 2);
        due("holder(0, 0) of several", x.holder(0, 0), 1);
        x.grant(0, 0, 3, 1);
        due("holder(0, 0)", x.holder(0, 0), 3);
        refused("holder(0, 1)", STATE, x, () -> x.holder(0, 1));
        refused("holder(2, 0)", PLACE, x, () -> x.holder(2, 0));
        refused("holder(0, 4)", PLACE, x, () -> x.holder(0, 4));
        for (int far : FAR) {
            refused("holder(far, 0)", PLACE, x, () -> x.holder(far, 0));
            refused("holder(0, far)", PLACE, x, () -> x.holder(0, far));
        }
        FerryRights y = full();
        y.grant(5, 3, 0, 2);
        y.grant(5, 3, 11, 2);
        due("holder(5, 3) of a full river", y.holder(5, 3), 0);
        y.grant(5, 3, 11, 1);
        due("holder(5, 3) of a full river", y.holder(5, 3), 11);
    }

    private static FerryRights withMaster() {
        FerryRights x = river();
        x.grant(1, 0, 2, 32);
        x.grant(1, 1, 2, 32);
        x.grant(1, 2, 2, 32);
        x.grant(1, 3, 2, 33);
        x.grant(0, 0, 2, 64);
        x.grant(0, 1, 2, 64);
        return x;
    }

    private static void master() {
        FerryRights x = withMaster();
        due("master(1)", x.master(1), 2);
        refused("master(0), half of all", STATE, x, () -> x.master(0));
        x.give(2, 0, 1, 0, 1);
        refused("master(1), half of all", STATE, x, () -> x.master(1));
        refused("master(2)", PLACE, x, () -> x.master(2));
        for (int far : FAR) {
            refused("master(far)", PLACE, x, () -> x.master(far));
        }
        FerryRights y = full();
        refused("master(5) of a full river", STATE, y, () -> y.master(5));
        for (int watch = 1; watch < 4; watch++) {
            y.grant(5, watch, 0, 43);
            y.grant(4, watch, 11, 43);
        }
        due("master(5) of a full river", y.master(5), 0);
        due("master(4) of a full river", y.master(4), 11);
        refused("master(3) of a full river", STATE, y, () -> y.master(3));
    }

    private static void hasMaster() {
        FerryRights x = withMaster();
        due("hasMaster(1)", x.hasMaster(1), true);
        due("hasMaster(0), half of all", x.hasMaster(0), false);
        x.give(2, 0, 1, 0, 1);
        due("hasMaster(1), half of all", x.hasMaster(1), false);
        refused("hasMaster(2)", PLACE, x, () -> asNumber(x.hasMaster(2)));
        for (int far : FAR) {
            refused("hasMaster(far)", PLACE, x, () -> asNumber(x.hasMaster(far)));
        }
        FerryRights y = full();
        due("hasMaster(5) of a full river", y.hasMaster(5), false);
        for (int watch = 1; watch < 4; watch++) {
            y.grant(5, watch, 0, 43);
            y.grant(4, watch, 11, 43);
        }
        due("hasMaster(5) of a full river", y.hasMaster(5), true);
        due("hasMaster(4) of a full river", y.hasMaster(4), true);
        due("hasMaster(3) of a full river", y.hasMaster(3), false);
    }

    private static void shareValue() {
        FerryRights x = river();
        x.addFerry(0);
        int[] want = {7, 13, 10, 4, 41, 81, 61, 21, 1, 1, 1, 1};
        for (int i = 0; i < want.length; i++) {
            due("shareValue(" + i / 4 + ", " + i % 4 + ")", x.shareValue(i / 4, i % 4), want[i]);
        }
        refused("shareValue(3, 0)", PLACE, x, () -> x.shareValue(3, 0));
        refused("shareValue(0, 4)", PLACE, x, () -> x.shareValue(0, 4));
        for (int far : FAR) {
            refused("shareValue(far, 0)", PLACE, x, () -> x.shareValue(far, 0));
            refused("shareValue(0, far)", PLACE, x, () -> x.shareValue(0, far));
        }
    }

    private static void watchAt() {
        FerryRights x = new FerryRights();
        for (int hour = 0; hour < 24; hour++) {
            int want = hour < 6 ? 0 : hour < 12 ? 1 : hour < 18 ? 2 : 3;
            due("watchAt(" + hour + ")", x.watchAt(hour), want);
        }
        refused("watchAt(24)", PLACE, x, () -> x.watchAt(24));
        for (int far : FAR) {
            refused("watchAt(far)", PLACE, x, () -> x.watchAt(far));
        }
    }

    private static void people() {
        FerryRights x = river();
        due("people()", x.people(), 5);
        x.die(0);
        due("people(), one being dead", x.people(), 5);
        x.addPerson();
        due("people()", x.people(), 6);
    }

    private static void living() {
        FerryRights x = river();
        due("living()", x.living(), 5);
        x.die(0);
        x.die(2);
        due("living()", x.living(), 3);
        x.addPerson();
        due("living()", x.living(), 4);
        due("living() of a full river", full().living(), 12);
    }

    private static void isAlive() {
        FerryRights x = river();
        x.die(1);
        due("isAlive(0)", x.isAlive(0), true);
        due("isAlive(1)", x.isAlive(1), false);
        refused("isAlive(5)", PLACE, x, () -> asNumber(x.isAlive(5)));
        for (int far : FAR) {
            refused("isAlive(far)", PLACE, x, () -> asNumber(x.isAlive(far)));
        }
    }

    private static void coins() {
        FerryRights x = river();
        due("coins(3)", x.coins(3), 0);
        x.pay(3, 12);
        due("coins(3)", x.coins(3), 12);
        due("coins(2)", x.coins(2), 0);
        x.die(3);
        due("coins(3) of a dead one", x.coins(3), 0);
        refused("coins(5)", PLACE, x, () -> x.coins(5));
        for (int far : FAR) {
            refused("coins(far)", PLACE, x, () -> x.coins(far));
        }
    }

    private static void earned() {
        FerryRights x = river();
        x.grant(1, 0, 1, 32);
        x.pay(1, 9999);
        x.carry(1, 5, 3);
        x.carry(1, 6, 3);
        due("earned(1), all being lost", x.earned(1), 30);
        due("coins(1)", x.coins(1), 9999);
        due("earned(2)", x.earned(2), 0);
        x.die(1);
        due("earned(1) of a dead one", x.earned(1), 30);
        due("earned(2) of an heir", x.earned(2), 0);
        refused("earned(5)", PLACE, x, () -> x.earned(5));
        for (int far : FAR) {
            refused("earned(far)", PLACE, x, () -> x.earned(far));
        }
    }

    private static void allShares() {
        FerryRights x = river();
        due("allShares(1)", x.allShares(1), 0);
        x.grant(0, 0, 1, 1);
        x.grant(0, 3, 1, 2);
        x.grant(1, 0, 1, 4);
        x.grant(1, 3, 1, 8);
        x.grant(1, 3, 2, 16);
        due("allShares(1)", x.allShares(1), 15);
        due("allShares(2)", x.allShares(2), 16);
        refused("allShares(5)", PLACE, x, () -> x.allShares(5));
        for (int far : FAR) {
            refused("allShares(far)", PLACE, x, () -> x.allShares(far));
        }
        FerryRights y = full();
        y.grant(5, 3, 11, 2);
        due("allShares(11) of a full river", y.allShares(11), 2);
        due("allShares(10) of a full river", y.allShares(10), 0);
    }

    private static void hasParent() {
        FerryRights x = river();
        due("hasParent(0)", x.hasParent(0), false);
        due("hasParent(1)", x.hasParent(1), true);
        due("hasParent(4)", x.hasParent(4), false);
        x.die(0);
        due("hasParent(1) of a dead parent", x.hasParent(1), true);
        refused("hasParent(5)", PLACE, x, () -> asNumber(x.hasParent(5)));
        for (int far : FAR) {
            refused("hasParent(far)", PLACE, x, () -> asNumber(x.hasParent(far)));
        }
    }

    private static void parent() {
        FerryRights x = river();
        x.addChild(4);
        x.die(0);
        due("parent(3) of a dead parent", x.parent(3), 0);
        due("parent(5)", x.parent(5), 4);
        refused("parent(4)", STATE, x, () -> x.parent(4));
        refused("parent(6)", PLACE, x, () -> x.parent(6));
        for (int far : FAR) {
            refused("parent(far)", PLACE, x, () -> x.parent(far));
        }
    }

    private static void children() {
        FerryRights x = river();
        x.addChild(1);
        x.die(2);
        due("children(0), a dead one as well", x.children(0), 3);
        due("children(1)", x.children(1), 1);
        due("children(4)", x.children(4), 0);
        x.die(0);
        due("children(0) of a dead one", x.children(0), 3);
        refused("children(6)", PLACE, x, () -> x.children(6));
        for (int far : FAR) {
            refused("children(far)", PLACE, x, () -> x.children(far));
        }
    }

    private static void heirs() {
        FerryRights x = river();
        due("heirs(0)", x.heirs(0), 3);
        due("heirs(1), its siblings", x.heirs(1), 2);
        due("heirs(4), without a parent", x.heirs(4), 0);
        x.addChild(1);
        due("heirs(1), its child", x.heirs(1), 1);
        due("heirs(5), without siblings", x.heirs(5), 0);
        x.die(5);
        due("heirs(1), its child being dead", x.heirs(1), 2);
        x.die(2);
        due("heirs(0)", x.heirs(0), 2);
        due("heirs(2) of a dead one", x.heirs(2), 2);
        x.die(0);
        due("heirs(0) of a dead one", x.heirs(0), 2);
        due("heirs(1) of a dead parent", x.heirs(1), 1);
        refused("heirs(6)", PLACE, x, () -> x.heirs(6));
        for (int far : FAR) {
            refused("heirs(far)", PLACE, x, () -> x.heirs(far));
        }
        due("heirs(0) of a full river", full().heirs(0), 11);
        due("heirs(11) of a full river", full().heirs(11), 10);
    }

    private static void heir() {
        FerryRights x = river();
        due("heir(0, 0)", x.heir(0, 0), 1);
        due("heir(0, 2)", x.heir(0, 2), 3);
        due("heir(2, 0), a sibling", x.heir(2, 0), 1);
        due("heir(2, 1), a sibling", x.heir(2, 1), 3);
        x.die(1);
        due("heir(0, 0)", x.heir(0, 0), 2);
        due("heir(1, 1) of a dead one", x.heir(1, 1), 3);
        x.addChild(0);
        due("heir(0, 2)", x.heir(0, 2), 5);
        refused("heir(0, 3)", PLACE, x, () -> x.heir(0, 3));
        refused("heir(4, 0)", PLACE, x, () -> x.heir(4, 0));
        refused("heir(6, 0)", PLACE, x, () -> x.heir(6, 0));
        for (int far : FAR) {
            refused("heir(far, 0)", PLACE, x, () -> x.heir(far, 0));
            refused("heir(0, far)", PLACE, x, () -> x.heir(0, far));
        }
        FerryRights y = full();
        due("heir(0, 10) of a full river", y.heir(0, 10), 11);
        refused("heir(0, 11) of a full river", PLACE, y, () -> y.heir(0, 11));
    }

    private static void crownCoins() {
        FerryRights x = river();
        due("crownCoins()", x.crownCoins(), 0);
        x.grant(1, 0, 4, 32);
        x.carry(1, 0, 1);
        due("crownCoins() after carry", x.crownCoins(), 10);
        x.pay(4, 100);
        x.die(4);
        due("crownCoins() after die", x.crownCoins(), 120);
        x.pay(0, 100);
        x.die(0);
        due("crownCoins() after die with heirs", x.crownCoins(), 120);
    }

    private static void price() {
        FerryRights x = river();
        due("price(1, 0, 1)", x.price(1, 0, 1), 0);
        x.grant(0, 1, 1, 41);
        x.grant(1, 1, 1, 64);
        due("price(1, 0, 1)", x.price(1, 0, 1), 533);
        due("price(1, 1, 1)", x.price(1, 1, 1), 5184);
        due("price(1, 0, 2)", x.price(1, 0, 2), 0);
        x.grant(0, 3, 4, 1);
        x.die(4);
        due("price(4, 0, 3) of a dead one", x.price(4, 0, 3), 0);
        refused("price(5, 0, 0)", PLACE, x, () -> x.price(5, 0, 0));
        refused("price(0, 2, 0)", PLACE, x, () -> x.price(0, 2, 0));
        refused("price(0, 0, 4)", PLACE, x, () -> x.price(0, 0, 4));
        for (int far : FAR) {
            refused("price(far, 0, 0)", PLACE, x, () -> x.price(far, 0, 0));
            refused("price(0, far, 0)", PLACE, x, () -> x.price(0, far, 0));
            refused("price(0, 0, far)", PLACE, x, () -> x.price(0, 0, far));
        }
    }

    private static void canBuy() {
        FerryRights x = crowd(5);
        x.grant(0, 1, 0, 10);
        x.pay(1, 129);
        due("canBuy with a coin too few", x.canBuy(1, 0, 0, 1), false);
        x.pay(1, 1);
        due("canBuy(1, 0, 0, 1)", x.canBuy(1, 0, 0, 1), true);
        x.pay(0, 9999);
        due("canBuy, the seller having the price", x.canBuy(1, 0, 0, 1), true);
        due("canBuy from oneself", x.canBuy(0, 0, 0, 1), false);
        due("canBuy where there are none", x.canBuy(1, 0, 0, 2), false);
        x.grant(0, 1, 2, 1);
        due("canBuy, the other owner without the price", x.canBuy(1, 0, 0, 1), true);
        x.pay(2, 129);
        due("canBuy, the other owner a coin short", x.canBuy(1, 0, 0, 1), true);
        x.pay(2, 1);
        due("canBuy, the other owner having the price", x.canBuy(1, 0, 0, 1), false);
        due("canBuy by the other owner", x.canBuy(2, 0, 0, 1), true);
        x.pay(3, 9999);
        x.grant(0, 2, 3, 1);
        x.grant(0, 1, 1, 1);
        due("canBuy by a co-owner, another one having the price", x.canBuy(1, 0, 0, 1), true);
        due("canBuy by an owner of another watch", x.canBuy(3, 0, 0, 1), false);
        x.die(4);
        due("canBuy by a dead one", x.canBuy(4, 0, 0, 1), false);
        due("canBuy from a dead one", x.canBuy(1, 4, 0, 1), false);
        refused("canBuy(5, ..)", PLACE, x, () -> asNumber(x.canBuy(5, 0, 0, 1)));
        refused("canBuy(1, 5, ..)", PLACE, x, () -> asNumber(x.canBuy(1, 5, 0, 1)));
        refused("canBuy(1, 0, 1, 1)", PLACE, x, () -> asNumber(x.canBuy(1, 0, 1, 1)));
        refused("canBuy(1, 0, 0, 4)", PLACE, x, () -> asNumber(x.canBuy(1, 0, 0, 4)));
        for (int far : FAR) {
            refused("canBuy(far, ..)", PLACE, x, () -> asNumber(x.canBuy(far, 0, 0, 1)));
            refused("canBuy(1, far, ..)", PLACE, x, () -> asNumber(x.canBuy(1, far, 0, 1)));
            refused("canBuy(1, 0, far, 1)", PLACE, x, () -> asNumber(x.canBuy(1, 0, far, 1)));
            refused("canBuy(1, 0, 0, far)", PLACE, x, () -> asNumber(x.canBuy(1, 0, 0, far)));
        }
        FerryRights y = full();
        y.grant(5, 2, 11, 1);
        y.grant(5, 3, 11, 1);
        y.pay(10, 2);
        due("canBuy(10, 11, 5, 3) of a full river", y.canBuy(10, 11, 5, 3), true);
        y.grant(5, 3, 0, 1);
        y.pay(0, 2);
        due("canBuy(10, 11, 5, 3), the first one having the price", y.canBuy(10, 11, 5, 3), false);
    }

    private static void inheritance() {
        FerryRights x = river();
        x.grant(0, 1, 0, 43);
        x.grant(0, 2, 0, 1);
        long before = x.digest();
        due("inheritance(0, 1, 0, 1)", x.inheritance(0, 1, 0, 1), 22);
        due("inheritance(0, 2, 0, 1)", x.inheritance(0, 2, 0, 1), 11);
        due("inheritance(0, 3, 0, 1)", x.inheritance(0, 3, 0, 1), 10);
        due("inheritance(0, 4, 0, 1) of no heir", x.inheritance(0, 4, 0, 1), 0);
        due("inheritance(0, 0, 0, 1) of oneself", x.inheritance(0, 0, 0, 1), 0);
        due("inheritance(0, 1, 0, 2)", x.inheritance(0, 1, 0, 2), 1);
        due("inheritance(0, 2, 0, 2)", x.inheritance(0, 2, 0, 2), 0);
        due("inheritance(0, 1, 1, 1)", x.inheritance(0, 1, 1, 1), 0);
        due("digest() unchanged", x.digest() == before, true);
        x.die(1);
        due("inheritance(0, 1, 0, 1) of a dead one", x.inheritance(0, 1, 0, 1), 0);
        due("inheritance(0, 2, 0, 1) of two", x.inheritance(0, 2, 0, 1), 22);
        due("inheritance(0, 3, 0, 1) of two", x.inheritance(0, 3, 0, 1), 21);
        x.die(2);
        due("inheritance(0, 3, 0, 1) alone", x.inheritance(0, 3, 0, 1), 43);
        due("inheritance(3, 0, 0, 1) of a parent", x.inheritance(3, 0, 0, 1), 0);
        x.die(0);
        due("inheritance(0, 3, 0, 1) from a dead one", x.inheritance(0, 3, 0, 1), 0);
        refused("inheritance(5, ..)", PLACE, x, () -> x.inheritance(5, 0, 0, 0));
        refused("inheritance(0, 5, ..)", PLACE, x, () -> x.inheritance(0, 5, 0, 0));
        refused("inheritance(0, 0, 2, 0)", PLACE, x, () -> x.inheritance(0, 0, 2, 0));
        refused("inheritance(0, 0, 0, 4)", PLACE, x, () -> x.inheritance(0, 0, 0, 4));
        for (int far : FAR) {
            refused("inheritance(far, ..)", PLACE, x, () -> x.inheritance(far, 0, 0, 0));
            refused("inheritance(0, far, ..)", PLACE, x, () -> x.inheritance(0, far, 0, 0));
            refused("inheritance(0, 0, far, 0)", PLACE, x, () -> x.inheritance(0, 0, far, 0));
            refused("inheritance(0, 0, 0, far)", PLACE, x, () -> x.inheritance(0, 0, 0, far));
        }
    }

    private static void fare() {
        FerryRights x = river();
        x.grant(0, 1, 0, 41);
        x.grant(1, 3, 1, 64);
        x.pay(1, 9999);
        long before = x.digest();
        due("fare(0, 0, 11, 64)", x.fare(0, 0, 11, 64), 123);
        due("fare(0, 0, 6, 10)", x.fare(0, 0, 6, 10), 19);
        due("fare(0, 0, 12, 64)", x.fare(0, 0, 12, 64), 0);
        due("fare(0, 0, 5, 64)", x.fare(0, 0, 5, 64), 0);
        due("fare(1, 1, 18, 200), all being lost", x.fare(1, 1, 18, 200), 4000);
        due("fare(1, 1, 23, 1)", x.fare(1, 1, 23, 1), 20);
        due("fare(4, 1, 23, 1) of no owner", x.fare(4, 1, 23, 1), 0);
        due("digest() unchanged", x.digest() == before, true);
        refused("fare(5, 0, 0, 0)", PLACE, x, () -> x.fare(5, 0, 0, 0));
        refused("fare(0, 2, 0, 0)", PLACE, x, () -> x.fare(0, 2, 0, 0));
        refused("fare(0, 0, 24, 0)", PLACE, x, () -> x.fare(0, 0, 24, 0));
        refused("fare(0, 0, 0, 0)", VALUE, x, () -> x.fare(0, 0, 0, 0));
        refused("fare(0, 0, 0, 201)", VALUE, x, () -> x.fare(0, 0, 0, 201));
        for (int far : FAR) {
            refused("fare(far, ..)", PLACE, x, () -> x.fare(far, 0, 0, 1));
            refused("fare(0, far, ..)", PLACE, x, () -> x.fare(0, far, 0, 1));
            refused("fare(0, 0, far, 1)", PLACE, x, () -> x.fare(0, 0, far, 1));
            refused("fare(0, 0, 0, far)", VALUE, x, () -> x.fare(0, 0, 0, far));
        }
    }

    private static void richest() {
        FerryRights x = river();
        due("richest(), nobody with coins", x.richest(), 0);
        x.die(0);
        due("richest(), nobody with coins", x.richest(), 1);
        x.pay(4, 5);
        due("richest()", x.richest(), 4);
        x.pay(2, 5);
        due("richest() of several", x.richest(), 2);
        x.pay(3, 6);
        due("richest()", x.richest(), 3);
        for (int person = 1; person < 5; person++) {
            x.die(person);
        }
        refused("richest(), all being dead", STATE, x, x::richest);
        FerryRights empty = new FerryRights();
        refused("richest() without people", STATE, empty, empty::richest);
        FerryRights y = full();
        y.pay(11, 1);
        due("richest() of a full river", y.richest(), 11);
    }

    private static void meanCoins() {
        FerryRights x = new FerryRights();
        due("meanCoins() without people", x.meanCoins(), 0);
        for (int i = 0; i < 3; i++) {
            x.addPerson();
        }
        due("meanCoins()", x.meanCoins(), 0);
        x.pay(0, 5);
        x.pay(2, 2);
        due("meanCoins()", x.meanCoins(), 7.0 / 3.0);
        x.die(1);
        due("meanCoins() of the living", x.meanCoins(), 3.5);
        x.die(0);
        x.die(2);
        due("meanCoins(), all being dead", x.meanCoins(), 0);
        FerryRights y = full();
        y.pay(11, 6);
        due("meanCoins() of a full river", y.meanCoins(), 0.5);
    }

    private static void digest() {
        due("digest() of a new object", new FerryRights().digest() == 1861L * 31 * 31 * 31 * 31, true);
        FerryRights x = withMaster();
        x.pay(0, 77);
        x.carry(1, 9, 31);
        x.addChild(2);
        x.die(3);
        due("digest()", x.digest() == digestByFace(x), true);
        x.die(4);
        due("digest()", x.digest() == digestByFace(x), true);
    }

    private static long digestByFace(FerryRights x) {
        long d = 1861;
        d = d * 31 + x.ferries();
        d = d * 31 + x.people();
        d = d * 31 + x.living();
        d = d * 31 + x.crownCoins();
        for (int ferry = 0; ferry < x.ferries(); ferry++) {
            d = d * 31 + x.toll(ferry);
            d = d * 31 + x.carried(ferry);
            for (int watch = 0; watch < 4; watch++) {
                for (int person = 0; person < x.people(); person++) {
                    d = d * 31 + x.shares(ferry, watch, person);
                }
            }
        }
        for (int person = 0; person < x.people(); person++) {
            d = d * 31 + (x.isAlive(person) ? 1 : 0);
            d = d * 31 + x.coins(person);
            d = d * 31 + x.earned(person);
            d = d * 31 + x.allShares(person);
            d = d * 31 + x.children(person);
            d = d * 31 + x.heirs(person);
        }
        return d;
    }

    public static void main(String[] args) {
        Runnable[] promises = {
            FerryRightsPromises::newObject, FerryRightsPromises::addFerry, FerryRightsPromises::addPerson,
            FerryRightsPromises::addChild, FerryRightsPromises::pay, FerryRightsPromises::grant,
            FerryRightsPromises::give, FerryRightsPromises::buy, FerryRightsPromises::setToll,
            FerryRightsPromises::carry, FerryRightsPromises::die, FerryRightsPromises::ferries,
            FerryRightsPromises::toll, FerryRightsPromises::carried, FerryRightsPromises::shares,
            FerryRightsPromises::crownShares, FerryRightsPromises::owners, FerryRightsPromises::holder,
            FerryRightsPromises::master, FerryRightsPromises::hasMaster, FerryRightsPromises::shareValue,
            FerryRightsPromises::watchAt, FerryRightsPromises::people, FerryRightsPromises::living,
            FerryRightsPromises::isAlive, FerryRightsPromises::coins, FerryRightsPromises::earned,
            FerryRightsPromises::allShares, FerryRightsPromises::hasParent, FerryRightsPromises::parent,
            FerryRightsPromises::children, FerryRightsPromises::heirs, FerryRightsPromises::heir,
            FerryRightsPromises::crownCoins, FerryRightsPromises::price, FerryRightsPromises::canBuy,
            FerryRightsPromises::inheritance, FerryRightsPromises::fare, FerryRightsPromises::richest,
            FerryRightsPromises::meanCoins, FerryRightsPromises::digest,
        };
        for (Runnable test : promises) {
            promise++;
            test.run();
        }
        System.out.println(wrong == 0 ? "all " + promise + " promises are kept" : wrong + " answers are not as due");
        if (wrong != 0) {
            System.exit(1);
        }
    }
}
