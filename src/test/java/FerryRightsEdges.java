import java.io.IOException;
import java.math.BigInteger;

/** The promises 1 to 41, sentence by sentence, at their edges. */
public final class FerryRightsEdges {
    private static final Class<?> PLACE = Checks.PLACE;
    private static final Class<?> VALUE = Checks.VALUE;
    private static final Class<?> STATE = Checks.STATE;

    private static final String NO_PERSON = "Throws `IndexOutOfBoundsException` if there is no such person";
    private static final String NO_FERRY = "Throws `IndexOutOfBoundsException` if there is no such ferry";
    private static final String NO_WATCH = "Throws `IndexOutOfBoundsException` if there is no such ferry or watch";
    private static final String NO_SALE = "Throws `IndexOutOfBoundsException` if there is no such person, ferry or watch";

    private static void due(String call, long got, long want) {
        Checks.due(call, got, want);
    }

    private static void due(String call, double got, double want) {
        Checks.due(call, got, want);
    }

    private static void due(String call, boolean got, boolean want) {
        Checks.due(call, got, want);
    }

    private static long asNumber(boolean so) {
        return so ? 1 : 0;
    }

    private static void newObject(Sentences doc) {
        doc.under("Promise 1: A new object");
        doc.test("Creates a river", "each one apart", () -> {
            FerryRights x = Rivers.empty();
            FerryRights y = Rivers.owned();
            due("ferries() of the first", x.ferries(), 0);
            due("people() of the first", x.people(), 0);
            FerryRights z = Rivers.empty();
            due("ferries() of a later one", z.ferries(), 0);
            due("people() of a later one", z.people(), 0);
            due("addFerry(7) of the first", x.addFerry(7), 0);
            due("crownShares(0, 0) of the first", x.crownShares(0, 0), 64);
            due("toll(0) of the second", y.toll(0), 0);
        });
        doc.test(" without ferries", () -> {
            FerryRights x = Rivers.empty();
            due("ferries()", x.ferries(), 0);
            due("crownCoins()", x.crownCoins(), 0);
            Checks.refused(PLACE, Rivers::empty, "toll(0)", y -> y.toll(0));
            Checks.refused(PLACE, Rivers::empty, "carried(0)", y -> y.carried(0));
            Checks.refused(PLACE, Rivers::empty, "crownShares(0, 0)", y -> y.crownShares(0, 0));
            Checks.refused(PLACE, Rivers::empty, "owners(0, 0)", y -> y.owners(0, 0));
            Checks.refused(PLACE, Rivers::empty, "holder(0, 0)", y -> y.holder(0, 0));
            Checks.refused(PLACE, Rivers::empty, "master(0)", y -> y.master(0));
            Checks.refused(PLACE, Rivers::empty, "hasMaster(0)", y -> y.hasMaster(0));
            Checks.refused(PLACE, Rivers::empty, "shareValue(0, 0)", y -> y.shareValue(0, 0));
            Checks.refused(PLACE, Rivers::empty, "carry(0, 0, 0)", y -> y.carry(0, 0, 0));
        });
        doc.test(" and people.", () -> {
            FerryRights x = Rivers.empty();
            due("people()", x.people(), 0);
            due("living()", x.living(), 0);
            due("meanCoins()", x.meanCoins(), 0.0);
            Checks.refused(STATE, Rivers::empty, "richest()", y -> y.richest());
            Checks.refused(PLACE, Rivers::empty, "addChild(0)", y -> y.addChild(0));
            Checks.refused(PLACE, Rivers::empty, "pay(0, 0)", y -> y.pay(0, 0));
            Checks.refused(PLACE, Rivers::empty, "die(0)", y -> y.die(0));
            Checks.refused(PLACE, Rivers::empty, "isAlive(0)", y -> y.isAlive(0));
            Checks.refused(PLACE, Rivers::empty, "coins(0)", y -> y.coins(0));
            Checks.refused(PLACE, Rivers::empty, "earned(0)", y -> y.earned(0));
            Checks.refused(PLACE, Rivers::empty, "allShares(0)", y -> y.allShares(0));
            Checks.refused(PLACE, Rivers::empty, "hasParent(0)", y -> y.hasParent(0));
            Checks.refused(PLACE, Rivers::empty, "parent(0)", y -> y.parent(0));
            Checks.refused(PLACE, Rivers::empty, "children(0)", y -> y.children(0));
            Checks.refused(PLACE, Rivers::empty, "heirs(0)", y -> y.heirs(0));
            Checks.refused(PLACE, Rivers::empty, "heir(0, 0)", y -> y.heir(0, 0));
        });
    }

    private static void addFerry(Sentences doc) {
        doc.under("Promise 2: addFerry");
        doc.test("Returns its number.", () -> {
            FerryRights x = Rivers.empty();
            for (int i = 0; i < 6; i++) {
                due("addFerry(5)", x.addFerry(5), i);
                due("ferries()", x.ferries(), i + 1);
            }
        });
        doc.test("Throws `IllegalArgumentException` if toll is not 0 to 20", () -> {
            FerryRights x = Rivers.empty();
            due("addFerry(0)", x.addFerry(0), 0);
            due("addFerry(20)", x.addFerry(20), 1);
            due("toll(0)", x.toll(0), 0);
            due("toll(1)", x.toll(1), 20);
            Checks.refusedEach(VALUE, Rivers::empty, "addFerry(#)", Checks.notIn(0, 20), FerryRights::addFerry);
            Checks.refusedEach(VALUE, Rivers::lived, "addFerry(#)", Checks.notIn(0, 20), FerryRights::addFerry);
        });
        doc.test("Throws `IllegalStateException` if there are 6", () -> {
            FerryRights x = Rivers.empty();
            for (int i = 0; i < 5; i++) {
                x.addFerry(0);
            }
            due("addFerry(20), the 6th", x.addFerry(20), 5);
            Checks.refused(STATE, Rivers::full, "addFerry(0), the 7th", y -> y.addFerry(0));
            Checks.refused(STATE, Rivers::owned, "addFerry(20), the 7th", y -> y.addFerry(20));
        });
    }

    private static void addPerson(Sentences doc) {
        doc.under("Promise 3: addPerson");
        doc.test("Returns the number of a new person", () -> {
            FerryRights x = Rivers.empty();
            for (int i = 0; i < 12; i++) {
                due("addPerson()", x.addPerson(), i);
                due("people()", x.people(), i + 1);
            }
        });
        doc.test("Returns the number of a new person", "dead ones keep theirs", () -> {
            due("addPerson()", Rivers.died().addPerson(), 6);
        });
        doc.test(" without a parent.", () -> {
            FerryRights x = Rivers.family(2);
            due("addPerson()", x.addPerson(), 3);
            due("hasParent(3)", x.hasParent(3), false);
            due("children(0)", x.children(0), 2);
        });
        doc.test("Throws `IllegalStateException` if there are 12", () -> {
            FerryRights x = Rivers.family(10);
            due("addPerson(), the 12th", x.addPerson(), 11);
            Checks.refused(STATE, Rivers::full, "addPerson(), the 13th", y -> y.addPerson());
            Checks.refused(STATE, Rivers::owned, "addPerson(), the 13th", y -> y.addPerson());
        });
        doc.test("Throws `IllegalStateException` if there are 12", "the dead ones as well", () -> {
            Checks.refused(STATE, FerryRightsEdges::fullAndDead, "addPerson(), the 13th", y -> y.addPerson());
        });
    }

    /** 12 people, of whom 11 is alive alone. */
    private static FerryRights fullAndDead() {
        FerryRights x = Rivers.full();
        for (int person = 0; person < 11; person++) {
            x.die(person);
        }
        return x;
    }

    private static void addChild(Sentences doc) {
        doc.under("Promise 4: addChild");
        doc.test("Returns the number of this person.", () -> {
            FerryRights x = Rivers.crowd(1, 1);
            for (int i = 1; i < 12; i++) {
                due("addChild(" + (i - 1) + ")", x.addChild(i - 1), i);
                due("parent(" + i + ")", x.parent(i), i - 1);
            }
        });
        doc.test("Throws `IndexOutOfBoundsException` if there is no such parent", () -> {
            FerryRights x = Rivers.lived();
            due("addChild(0)", x.addChild(0), 6);
            due("addChild(6), of the last one", x.addChild(6), 7);
            Checks.refusedOutside(6, Rivers::lived, "addChild(#)", FerryRights::addChild);
            Checks.refusedOutside(12, Rivers::full, "addChild(#)", FerryRights::addChild);
            Checks.refusedOutside(0, Rivers::empty, "addChild(#)", FerryRights::addChild);
        });
        doc.test("Throws `IllegalStateException` if the parent is dead", () -> {
            Checks.refused(STATE, Rivers::lived, "addChild(4)", y -> y.addChild(4));
            Checks.refused(STATE, Rivers::died, "addChild(0)", y -> y.addChild(0));
            Checks.refused(STATE, Rivers::died, "addChild(5)", y -> y.addChild(5));
        });
        doc.test(", or there are 12 people", () -> {
            FerryRights x = Rivers.family(10);
            due("addChild(10), the 12th", x.addChild(10), 11);
            Checks.refused(STATE, Rivers::full, "addChild(0), the 13th", y -> y.addChild(0));
            Checks.refused(STATE, Rivers::full, "addChild(11), the 13th", y -> y.addChild(11));
            Checks.refused(STATE, FerryRightsEdges::fullAndDead, "addChild(11), the 13th", y -> y.addChild(11));
            Checks.refused(STATE, FerryRightsEdges::fullAndDead, "addChild(0), of a dead one", y -> y.addChild(0));
        });
    }

    private static void pay(Sentences doc) {
        doc.under("Promise 5: pay");
        doc.test("Returns how many this one has then.", () -> {
            FerryRights x = Rivers.lived();
            due("pay(3, 7)", x.pay(3, 7), 7);
            due("pay(3, 5)", x.pay(3, 5), 12);
            due("coins(3)", x.coins(3), 12);
            due("pay(3, 9986)", x.pay(3, 9986), 9998);
            due("pay(3, 2), a coin being lost", x.pay(3, 2), 9999);
            due("pay(3, 1), which is lost", x.pay(3, 1), 9999);
            due("coins(3)", x.coins(3), 9999);
            due("earned(3), which are tolls alone", x.earned(3), 0);
        });
        doc.test(NO_PERSON, () -> {
            FerryRights x = Rivers.lived();
            due("pay(0, 1), the first", x.pay(0, 1), 120);
            due("pay(5, 1), the last", x.pay(5, 1), 1);
            Checks.refusedOutside(6, Rivers::lived, "pay(#, 1)", (y, n) -> y.pay(n, 1));
            Checks.refusedOutside(12, Rivers::full, "pay(#, 9999)", (y, n) -> y.pay(n, 9999));
            Checks.refusedOutside(0, Rivers::empty, "pay(#, 1)", (y, n) -> y.pay(n, 1));
        });
        doc.test("Throws `IllegalArgumentException` if coins is not 1 to 9999", () -> {
            FerryRights x = Rivers.lived();
            due("pay(3, 1)", x.pay(3, 1), 1);
            due("pay(5, 9999)", x.pay(5, 9999), 9999);
            Checks.refusedEach(VALUE, Rivers::lived, "pay(1, #)", Checks.notIn(1, 9999), (y, n) -> y.pay(1, n));
        });
        doc.test("Throws `IllegalStateException` if this person is dead", () -> {
            Checks.refused(STATE, Rivers::lived, "pay(4, 1)", y -> y.pay(4, 1));
            Checks.refused(STATE, Rivers::died, "pay(0, 9999)", y -> y.pay(0, 9999));
        });
    }

    private static void grant(Sentences doc) {
        doc.under("Promise 6: grant");
        doc.test("Grants shares of the crown to a person.", () -> {
            FerryRights x = Rivers.lived();
            x.grant(0, 1, 0, 3);
            x.grant(0, 1, 5, 4);
            due("shares(0, 1, 0)", x.shares(0, 1, 0), 44);
            due("shares(0, 1, 1)", x.shares(0, 1, 1), 10);
            due("shares(0, 1, 5)", x.shares(0, 1, 5), 4);
            due("shares(0, 0, 0)", x.shares(0, 0, 0), 0);
            due("shares(1, 1, 0)", x.shares(1, 1, 0), 0);
        });
        doc.test("Returns how many the crown has then.", () -> {
            FerryRights x = Rivers.lived();
            due("grant(0, 1, 5, 12)", x.grant(0, 1, 5, 12), 1);
            due("grant(0, 1, 3, 1), the last one", x.grant(0, 1, 3, 1), 0);
            due("grant(0, 0, 3, 1)", x.grant(0, 0, 3, 1), 63);
            due("crownShares(0, 0)", x.crownShares(0, 0), 63);
        });
        doc.test("Throws `IndexOutOfBoundsException` if there is no such ferry, watch or person", () -> {
            due("grant of the first ones", Rivers.full().grant(0, 0, 0, 1), 63);
            due("grant of the last ones", Rivers.full().grant(5, 3, 11, 1), 63);
            Checks.refusedOutside(2, Rivers::lived, "grant(#, 1, 0, 1)", (y, n) -> y.grant(n, 1, 0, 1));
            Checks.refusedOutside(4, Rivers::lived, "grant(0, #, 0, 1)", (y, n) -> y.grant(0, n, 0, 1));
            Checks.refusedOutside(6, Rivers::lived, "grant(0, 1, #, 1)", (y, n) -> y.grant(0, 1, n, 1));
            Checks.refusedOutside(6, Rivers::full, "grant(#, 1, 0, 1)", (y, n) -> y.grant(n, 1, 0, 1));
            Checks.refusedOutside(4, Rivers::full, "grant(5, #, 0, 1)", (y, n) -> y.grant(5, n, 0, 1));
            Checks.refusedOutside(12, Rivers::full, "grant(0, 1, #, 1)", (y, n) -> y.grant(0, 1, n, 1));
            Checks.refusedOutside(0, () -> Rivers.crowd(1, 0), "grant(0, 1, #, 1)", (y, n) -> y.grant(0, 1, n, 1));
        });
        doc.test("Throws `IllegalArgumentException` if shares is not 1 to 64", () -> {
            FerryRights x = Rivers.lived();
            due("grant(0, 0, 0, 1)", x.grant(0, 0, 0, 1), 63);
            due("grant(0, 2, 0, 64)", x.grant(0, 2, 0, 64), 0);
            Checks.refusedEach(VALUE, Rivers::lived, "grant(0, 1, 0, #)", Checks.notIn(1, 64), (y, n) -> y.grant(0, 1, 0, n));
            Checks.refusedEach(VALUE, Rivers::full, "grant(0, 1, 0, #)", Checks.notIn(1, 64), (y, n) -> y.grant(0, 1, 0, n));
        });
        doc.test("Throws `IllegalStateException` if this person is dead", () -> {
            Checks.refused(STATE, Rivers::lived, "grant(0, 1, 4, 1)", y -> y.grant(0, 1, 4, 1));
            Checks.refused(STATE, Rivers::died, "grant(0, 1, 0, 64)", y -> y.grant(0, 1, 0, 64));
        });
        doc.test(", or the crown has not so many", () -> {
            due("grant of just so many", Rivers.lived().grant(0, 1, 1, 13), 0);
            Checks.refused(STATE, Rivers::lived, "grant of 1 too many", y -> y.grant(0, 1, 1, 14));
            Checks.refused(STATE, Rivers::lived, "grant of 64", y -> y.grant(0, 1, 1, 64));
            Checks.refused(STATE, Rivers::owned, "grant where the crown has none", y -> y.grant(5, 3, 11, 1));
            Checks.refused(STATE, Rivers::owned, "grant where the crown has none", y -> y.grant(0, 0, 5, 1));
        });
    }

    private static void give(Sentences doc) {
        doc.under("Promise 7: give");
        doc.test("Gives shares of a person to another one.", () -> {
            FerryRights x = Rivers.lived();
            x.give(0, 5, 0, 1, 1);
            due("shares(0, 1, 0)", x.shares(0, 1, 0), 40);
            due("shares(0, 1, 5)", x.shares(0, 1, 5), 1);
            due("shares(0, 1, 1)", x.shares(0, 1, 1), 10);
            due("shares(1, 3, 0)", x.shares(1, 3, 0), 10);
            due("crownShares(0, 1)", x.crownShares(0, 1), 13);
            due("coins(0)", x.coins(0), 119);
        });
        doc.test("Returns how many the one who gets has then.", () -> {
            FerryRights x = Rivers.lived();
            due("give(0, 1, 0, 1, 40)", x.give(0, 1, 0, 1, 40), 50);
            due("give(0, 3, 0, 1, 1), the last one", x.give(0, 3, 0, 1, 1), 1);
            due("shares(0, 1, 0)", x.shares(0, 1, 0), 0);
        });
        doc.test(NO_SALE, () -> {
            due("give of the first ones", Rivers.owned().give(0, 11, 0, 0, 1), 1);
            due("give of the last ones", Rivers.owned().give(11, 0, 5, 3, 1), 1);
            Checks.refusedOutside(6, Rivers::lived, "give(#, 1, 0, 1, 1)", (y, n) -> y.give(n, 1, 0, 1, 1));
            Checks.refusedOutside(6, Rivers::lived, "give(0, #, 0, 1, 1)", (y, n) -> y.give(0, n, 0, 1, 1));
            Checks.refusedOutside(2, Rivers::lived, "give(0, 1, #, 1, 1)", (y, n) -> y.give(0, 1, n, 1, 1));
            Checks.refusedOutside(4, Rivers::lived, "give(0, 1, 0, #, 1)", (y, n) -> y.give(0, 1, 0, n, 1));
            Checks.refusedOutside(12, Rivers::owned, "give(#, 0, 5, 3, 1)", (y, n) -> y.give(n, 0, 5, 3, 1));
            Checks.refusedOutside(12, Rivers::owned, "give(11, #, 5, 3, 1)", (y, n) -> y.give(11, n, 5, 3, 1));
            Checks.refusedOutside(6, Rivers::owned, "give(11, 0, #, 3, 1)", (y, n) -> y.give(11, 0, n, 3, 1));
            Checks.refusedOutside(4, Rivers::owned, "give(11, 0, 5, #, 1)", (y, n) -> y.give(11, 0, 5, n, 1));
        });
        doc.test("Throws `IllegalArgumentException` if shares is not 1 to 64", () -> {
            due("give of 1", Rivers.owned().give(11, 0, 5, 3, 1), 1);
            due("give of 64", Rivers.owned().give(11, 0, 5, 3, 64), 64);
            Checks.refusedEach(VALUE, Rivers::owned, "give(11, 0, 5, 3, #)", Checks.notIn(1, 64),
                    (y, n) -> y.give(11, 0, 5, 3, n));
            Checks.refusedEach(VALUE, Rivers::lived, "give(0, 1, 0, 1, #)", Checks.notIn(1, 64),
                    (y, n) -> y.give(0, 1, 0, 1, n));
        });
        giveAndState(doc);
    }

    private static void giveAndState(Sentences doc) {
        doc.test(", or both people are the same", () -> {
            Checks.refused(VALUE, Rivers::lived, "give(0, 0, 0, 1, 1)", y -> y.give(0, 0, 0, 1, 1));
            Checks.refused(VALUE, Rivers::owned, "give(11, 11, 5, 3, 64)", y -> y.give(11, 11, 5, 3, 64));
            Checks.refused(VALUE, Rivers::lived, "give(4, 4, 0, 1, 1), of a dead one", y -> y.give(4, 4, 0, 1, 1));
        });
        doc.test("Throws `IllegalStateException` if the one who gets is dead", () -> {
            Checks.refused(STATE, Rivers::lived, "give(0, 4, 0, 1, 1)", y -> y.give(0, 4, 0, 1, 1));
            Checks.refused(STATE, Rivers::lived, "give(0, 4, 0, 1, 41)", y -> y.give(0, 4, 0, 1, 41));
        });
        doc.test(", or the one who gives has not so many", () -> {
            due("give of just so many", Rivers.lived().give(1, 0, 0, 1, 10), 51);
            Checks.refused(STATE, Rivers::lived, "give of 1 too many", y -> y.give(1, 0, 0, 1, 11));
            Checks.refused(STATE, Rivers::lived, "give of 64", y -> y.give(0, 1, 0, 1, 64));
            Checks.refused(STATE, Rivers::lived, "give of one without any", y -> y.give(2, 0, 0, 1, 1));
            Checks.refused(STATE, Rivers::lived, "give of another watch", y -> y.give(0, 1, 0, 0, 1));
            Checks.refused(STATE, Rivers::lived, "give of another ferry", y -> y.give(0, 1, 1, 1, 1));
            Checks.refused(STATE, Rivers::lived, "give of a dead one", y -> y.give(4, 0, 1, 0, 1));
        });
    }

    private static void buy(Sentences doc) {
        doc.under("Promise 8: buy");
        doc.test("Buys all shares that a seller has of a watch", () -> {
            FerryRights x = Rivers.lived();
            x.buy(1, 0, 1, 3);
            due("shares(1, 3, 1)", x.shares(1, 3, 1), 10);
            due("shares(1, 3, 0)", x.shares(1, 3, 0), 0);
            due("crownShares(1, 3)", x.crownShares(1, 3), 54);
            due("shares(0, 1, 0)", x.shares(0, 1, 0), 41);
            due("coins(1), the price being paid", x.coins(1), 294);
        });
        doc.test("; the seller gets the price.", () -> {
            FerryRights x = Rivers.lived();
            x.buy(1, 0, 1, 3);
            due("coins(0)", x.coins(0), 329);
            due("coins(2)", x.coins(2), 40);
            due("earned(0), which are tolls alone", x.earned(0), 19);
            due("crownCoins()", x.crownCoins(), 16);
        });
        doc.test("; the seller gets the price.", "up to 9999 coins", () -> {
            FerryRights x = Rivers.owned();
            due("buy(0, 11, 5, 3)", x.buy(0, 11, 5, 3), 1344);
            due("coins(11)", x.coins(11), 9999);
            due("coins(0)", x.coins(0), 8655);
        });
        doc.test("Returns the price.", () -> {
            FerryRights x = Rivers.lived();
            due("buy(1, 0, 1, 3)", x.buy(1, 0, 1, 3), 210);
            x.grant(0, 3, 3, 1);
            due("buy(1, 3, 0, 3), of one share", x.buy(1, 3, 0, 3), 4);
        });
        doc.test(NO_SALE, () -> {
            due("buy of the first ones", Rivers.owned().buy(11, 0, 0, 0), 64);
            due("buy of the last ones", Rivers.owned().buy(0, 11, 5, 3), 1344);
            Checks.refusedOutside(6, Rivers::lived, "buy(#, 0, 1, 3)", (y, n) -> y.buy(n, 0, 1, 3));
            Checks.refusedOutside(6, Rivers::lived, "buy(1, #, 1, 3)", (y, n) -> y.buy(1, n, 1, 3));
            Checks.refusedOutside(2, Rivers::lived, "buy(1, 0, #, 3)", (y, n) -> y.buy(1, 0, n, 3));
            Checks.refusedOutside(4, Rivers::lived, "buy(1, 0, 1, #)", (y, n) -> y.buy(1, 0, 1, n));
            Checks.refusedOutside(12, Rivers::owned, "buy(#, 11, 5, 3)", (y, n) -> y.buy(n, 11, 5, 3));
            Checks.refusedOutside(12, Rivers::owned, "buy(0, #, 5, 3)", (y, n) -> y.buy(0, n, 5, 3));
            Checks.refusedOutside(6, Rivers::owned, "buy(0, 11, #, 3)", (y, n) -> y.buy(0, 11, n, 3));
            Checks.refusedOutside(4, Rivers::owned, "buy(0, 11, 5, #)", (y, n) -> y.buy(0, 11, 5, n));
        });
        doc.test("Throws `IllegalStateException` if this buyer cannot buy them", () -> {
            Checks.refused(STATE, Rivers::lived, "buy by a dead one", y -> y.buy(4, 0, 1, 3));
            Checks.refused(STATE, Rivers::lived, "buy from oneself", y -> y.buy(1, 1, 0, 1));
            Checks.refused(STATE, Rivers::lived, "buy without coins", y -> y.buy(3, 0, 1, 3));
            Checks.refused(STATE, Rivers::lived, "buy with 40 of 210 coins", y -> y.buy(2, 0, 1, 3));
            Checks.refused(STATE, Rivers::lived, "buy by a co-owner with 504 of 533 coins", y -> y.buy(1, 0, 0, 1));
            Checks.refused(STATE, Rivers::lived, "buy from one without any", y -> y.buy(1, 2, 1, 3));
            Checks.refused(STATE, Rivers::lived, "buy from a dead one", y -> y.buy(1, 4, 1, 0));
            Checks.refused(STATE, () -> {
                FerryRights x = Rivers.lived();
                x.grant(1, 3, 2, 1);
                x.pay(2, 170);
                return x;
            }, "buy when a co-owner has the price", y -> y.buy(1, 0, 1, 3));
        });
    }

    private static void setToll(Sentences doc) {
        doc.under("Promise 9: setToll");
        doc.test("Returns the one before.", () -> {
            FerryRights x = Rivers.ruled();
            due("setToll(1, 2, 0)", x.setToll(1, 2, 0), 20);
            due("toll(1)", x.toll(1), 0);
            due("setToll(1, 2, 7)", x.setToll(1, 2, 7), 0);
            due("setToll(1, 2, 7), the same", x.setToll(1, 2, 7), 7);
            due("toll(0)", x.toll(0), 3);
            due("shareValue(1, 1), from now on", x.shareValue(1, 1), 29);
        });
        doc.test("Throws `IndexOutOfBoundsException` if there is no such ferry or person", () -> {
            Checks.refusedOutside(2, Rivers::ruled, "setToll(#, 2, 5)", (y, n) -> y.setToll(n, 2, 5));
            Checks.refusedOutside(6, Rivers::ruled, "setToll(1, #, 5)", (y, n) -> y.setToll(1, n, 5));
            Checks.refusedOutside(6, Rivers::lived, "setToll(1, #, 5), without a master", (y, n) -> y.setToll(1, n, 5));
            Checks.refusedOutside(6, Rivers::owned, "setToll(#, 0, 5)", (y, n) -> y.setToll(n, 0, 5));
            Checks.refusedOutside(12, Rivers::owned, "setToll(5, #, 5)", (y, n) -> y.setToll(5, n, 5));
        });
        doc.test("Throws `IllegalArgumentException` if toll is not 0 to 20", () -> {
            FerryRights x = Rivers.ruled();
            due("setToll(1, 2, 0)", x.setToll(1, 2, 0), 20);
            due("setToll(1, 2, 20)", x.setToll(1, 2, 20), 0);
            Checks.refusedEach(VALUE, Rivers::ruled, "setToll(1, 2, #)", Checks.notIn(0, 20), (y, n) -> y.setToll(1, 2, n));
        });
        doc.test("Throws `IllegalStateException` if this person is not the master of the ferry", () -> {
            Checks.refused(STATE, Rivers::ruled, "setToll(1, 1, 5), by another one", y -> y.setToll(1, 1, 5));
            Checks.refused(STATE, Rivers::ruled, "setToll(1, 3, 5), by another one", y -> y.setToll(1, 3, 5));
            Checks.refused(STATE, Rivers::ruled, "setToll(1, 4, 5), by a dead one", y -> y.setToll(1, 4, 5));
            Checks.refused(STATE, Rivers::ruled, "setToll(0, 2, 5), with half of all", y -> y.setToll(0, 2, 5));
            Checks.refused(STATE, Rivers::lived, "setToll(0, 0, 3), the same, without a master", y -> y.setToll(0, 0, 3));
            Checks.refused(STATE, Rivers::full, "setToll(5, 0, 5), nobody owning any", y -> y.setToll(5, 0, 5));
        });
    }

    private static void carry(Sentences doc) {
        doc.under("Promise 10: carry");
        doc.test("Carries passengers.", () -> {
            FerryRights x = Rivers.lived();
            x.carry(0, 0, 1);
            due("carried(0)", x.carried(0), 11);
            x.carry(0, 0, 200);
            due("carried(0)", x.carried(0), 211);
            due("carried(1)", x.carried(1), 0);
        });
        doc.test(" All tolls are shared by the shares of this watch:", () -> {
            FerryRights x = Rivers.crowd(5, 4);
            for (int watch = 0; watch < 4; watch++) {
                x.grant(0, watch, watch, 64);
            }
            x.carry(0, 5, 1);
            x.carry(0, 6, 2);
            x.carry(0, 17, 3);
            x.carry(0, 18, 4);
            for (int person = 0; person < 4; person++) {
                due("coins(" + person + ")", x.coins(person), 5 * (person + 1));
                due("earned(" + person + ")", x.earned(person), 5 * (person + 1));
            }
        });
        doc.test(" each owner gets all * shares / 64", () -> {
            FerryRights x = Rivers.full();
            x.grant(5, 3, 0, 1);
            x.grant(5, 3, 11, 62);
            x.grant(5, 3, 5, 1);
            due("carry(5, 23, 3)", x.carry(5, 23, 3), 2);
            due("coins(0), of 60 / 64", x.coins(0), 0);
            due("coins(11), of 60 * 62 / 64", x.coins(11), 58);
            due("coins(5), of 60 / 64", x.coins(5), 0);
            due("carry(5, 23, 4)", x.carry(5, 23, 4), 1);
            due("coins(0), of 80 / 64", x.coins(0), 1);
            due("coins(11), and of 80 * 62 / 64", x.coins(11), 58 + 77);
            due("coins(1), without shares", x.coins(1), 0);
            due("carry(5, 23, 200)", x.carry(5, 23, 200), 4000 - 62 - 3875 - 62);
        });
        doc.test("; what is left is the crown's.", () -> {
            FerryRights x = Rivers.owned();
            due("carry(5, 0, 200) where nobody owns any", x.carry(5, 0, 200), 4000);
            due("crownCoins()", x.crownCoins(), 4000);
            due("carry(5, 18, 200) where the crown has none", x.carry(5, 18, 200), 0);
            due("crownCoins(), without what the owner lost", x.crownCoins(), 4000);
            due("earned(11)", x.earned(11), 4000);
            due("carry(0, 0, 200) of toll 0", x.carry(0, 0, 200), 0);
            due("crownCoins()", x.crownCoins(), 4000);
        });
        doc.test("Returns what the crown gets.", () -> {
            FerryRights x = Rivers.lived();
            due("carry(0, 6, 1)", x.carry(0, 6, 1), 2);
            due("crownCoins()", x.crownCoins(), 18);
            due("carry(0, 11, 64)", x.carry(0, 11, 64), 39);
            due("crownCoins()", x.crownCoins(), 57);
        });
        carryRefused(doc);
    }

    private static void carryRefused(Sentences doc) {
        doc.test(NO_FERRY, () -> {
            due("carry(0, 0, 1)", Rivers.full().carry(0, 0, 1), 0);
            due("carry(5, 0, 1)", Rivers.full().carry(5, 0, 1), 20);
            Checks.refusedOutside(2, Rivers::lived, "carry(#, 7, 1)", (y, n) -> y.carry(n, 7, 1));
            Checks.refusedOutside(6, Rivers::owned, "carry(#, 23, 1)", (y, n) -> y.carry(n, 23, 1));
            Checks.refusedOutside(0, Rivers::empty, "carry(#, 0, 1)", (y, n) -> y.carry(n, 0, 1));
        });
        doc.test(", or hour is not 0 to 23", () -> {
            due("carry(5, 0, 1)", Rivers.owned().carry(5, 0, 1), 20);
            due("carry(5, 23, 1)", Rivers.owned().carry(5, 23, 1), 0);
            Checks.refusedOutside(24, Rivers::lived, "carry(0, #, 1)", (y, n) -> y.carry(0, n, 1));
        });
        doc.test("Throws `IllegalArgumentException` if passengers is not 1 to 200", () -> {
            due("carry(5, 0, 1)", Rivers.owned().carry(5, 0, 1), 20);
            due("carry(5, 0, 200)", Rivers.owned().carry(5, 0, 200), 4000);
            Checks.refusedEach(VALUE, Rivers::lived, "carry(0, 7, #)", Checks.notIn(1, 200), (y, n) -> y.carry(0, 7, n));
        });
    }

    private static void die(Sentences doc) {
        doc.under("Promise 11: die");
        doc.test("Lets a person die.", () -> {
            FerryRights x = Rivers.lived();
            x.die(0);
            due("isAlive(0)", x.isAlive(0), false);
            due("living()", x.living(), 4);
            due("people()", x.people(), 6);
            due("coins(0)", x.coins(0), 0);
            due("allShares(0)", x.allShares(0), 0);
            due("shares(0, 1, 1)", x.shares(0, 1, 1), 31);
            due("shares(0, 1, 2)", x.shares(0, 1, 2), 10);
            due("shares(0, 1, 3)", x.shares(0, 1, 3), 10);
            due("shares(1, 3, 1)", x.shares(1, 3, 1), 5);
            due("shares(1, 3, 2)", x.shares(1, 3, 2), 3);
            due("shares(1, 3, 3)", x.shares(1, 3, 3), 2);
            due("coins(1)", x.coins(1), 504 + 60);
            due("coins(2)", x.coins(2), 40 + 30);
            due("coins(3)", x.coins(3), 29);
            due("earned(0)", x.earned(0), 19);
        });
        doc.test("Returns how many heirs there are.", () -> {
            FerryRights x = Rivers.full();
            due("die(0), children", x.die(0), 11);
            for (int person = 1; person < 12; person++) {
                due("die(" + person + "), siblings", x.die(person), 11 - person);
            }
        });
        doc.test("Returns how many heirs there are.", "none", () -> {
            due("die(0), of one alone", Rivers.crowd(1, 1).die(0), 0);
            due("die(0), of one among others", Rivers.crowd(1, 12).die(0), 0);
            due("die(5), of an only child", Rivers.lived().die(5), 0);
        });
        doc.test(NO_PERSON, () -> {
            due("die(0), the first", Rivers.lived().die(0), 3);
            due("die(5), the last", Rivers.lived().die(5), 0);
            Checks.refusedOutside(6, Rivers::lived, "die(#)", FerryRights::die);
            Checks.refusedOutside(12, Rivers::owned, "die(#)", FerryRights::die);
            Checks.refusedOutside(0, Rivers::empty, "die(#)", FerryRights::die);
        });
        doc.test("Throws `IllegalStateException` if this person is dead", () -> {
            Checks.refused(STATE, Rivers::lived, "die(4)", y -> y.die(4));
            Checks.refused(STATE, Rivers::died, "die(0)", y -> y.die(0));
            Checks.refused(STATE, FerryRightsEdges::fullAndDead, "die(10), a sibling being alive", y -> y.die(10));
        });
    }

    private static void ferries(Sentences doc) {
        doc.under("Promise 12: ferries");
        doc.test("Returns how many ferries there are.", () -> {
            FerryRights x = Rivers.empty();
            for (int i = 0; i < 6; i++) {
                due("ferries()", x.ferries(), i);
                x.addFerry(i);
            }
            due("ferries()", x.ferries(), 6);
        });
    }

    private static void toll(Sentences doc) {
        doc.under("Promise 13: toll");
        doc.test("Returns its toll.", () -> {
            FerryRights x = Rivers.full();
            for (int i = 0; i < 6; i++) {
                due("toll(" + i + ")", x.toll(i), 4 * i);
            }
            FerryRights y = Rivers.ruled();
            y.setToll(1, 2, 19);
            due("toll(0)", y.toll(0), 3);
            due("toll(1), a new one", y.toll(1), 19);
        });
        doc.test(NO_FERRY, () -> {
            Checks.refusedOutside(0, Rivers::empty, "toll(#)", FerryRights::toll);
            Checks.refusedOutside(2, Rivers::lived, "toll(#)", FerryRights::toll);
            Checks.refusedOutside(6, Rivers::full, "toll(#)", FerryRights::toll);
        });
    }

    private static void carried(Sentences doc) {
        doc.under("Promise 14: carried");
        doc.test("Returns how many passengers it carried in all.", () -> {
            FerryRights x = Rivers.full();
            for (int i = 0; i < 6; i++) {
                due("carried(" + i + "), none", x.carried(i), 0);
            }
            x.carry(0, 0, 200);
            x.carry(0, 6, 1);
            x.carry(5, 12, 200);
            x.carry(5, 23, 200);
            due("carried(0), of toll 0", x.carried(0), 201);
            due("carried(5)", x.carried(5), 400);
            due("carried(4)", x.carried(4), 0);
        });
        doc.test(NO_FERRY, () -> {
            Checks.refusedOutside(0, Rivers::empty, "carried(#)", FerryRights::carried);
            Checks.refusedOutside(2, Rivers::lived, "carried(#)", FerryRights::carried);
            Checks.refusedOutside(6, Rivers::full, "carried(#)", FerryRights::carried);
        });
    }

    private static void shares(Sentences doc) {
        doc.under("Promise 15: shares");
        doc.test("Returns how many shares of it this person owns.", () -> {
            FerryRights x = Rivers.owned();
            for (int i = 0; i < 288; i++) {
                int want = i == 0 || i == 287 ? 64 : 0;
                due("shares(" + i / 48 + ", " + i / 12 % 4 + ", " + i % 12 + ")", x.shares(i / 48, i / 12 % 4, i % 12), want);
            }
            due("shares(1, 0, 4) of a dead one", Rivers.lived().shares(1, 0, 4), 0);
        });
        doc.test("Throws `IndexOutOfBoundsException` if there is no such ferry, watch or person", () -> {
            Checks.refusedOutside(2, Rivers::lived, "shares(#, 1, 0)", (y, n) -> y.shares(n, 1, 0));
            Checks.refusedOutside(4, Rivers::lived, "shares(0, #, 0)", (y, n) -> y.shares(0, n, 0));
            Checks.refusedOutside(6, Rivers::lived, "shares(0, 1, #)", (y, n) -> y.shares(0, 1, n));
            Checks.refusedOutside(6, Rivers::owned, "shares(#, 3, 11)", (y, n) -> y.shares(n, 3, 11));
            Checks.refusedOutside(4, Rivers::owned, "shares(5, #, 11)", (y, n) -> y.shares(5, n, 11));
            Checks.refusedOutside(12, Rivers::owned, "shares(5, 3, #)", (y, n) -> y.shares(5, 3, n));
        });
    }

    private static void crownShares(Sentences doc) {
        doc.under("Promise 16: crownShares");
        doc.test("Returns how many shares of it the crown has.", () -> {
            FerryRights x = Rivers.owned();
            due("crownShares(0, 0), none", x.crownShares(0, 0), 0);
            due("crownShares(5, 3), none", x.crownShares(5, 3), 0);
            due("crownShares(0, 3), all", x.crownShares(0, 3), 64);
            due("crownShares(5, 0), all", x.crownShares(5, 0), 64);
            x.grant(5, 0, 11, 63);
            due("crownShares(5, 0)", x.crownShares(5, 0), 1);
            due("crownShares(0, 1)", Rivers.lived().crownShares(0, 1), 13);
            due("crownShares(0, 1), everybody being dead", Rivers.died().crownShares(0, 1), 64);
        });
        doc.test(NO_WATCH, () -> {
            Checks.refusedOutside(2, Rivers::lived, "crownShares(#, 1)", (y, n) -> y.crownShares(n, 1));
            Checks.refusedOutside(4, Rivers::lived, "crownShares(0, #)", (y, n) -> y.crownShares(0, n));
            Checks.refusedOutside(6, Rivers::owned, "crownShares(#, 3)", (y, n) -> y.crownShares(n, 3));
            Checks.refusedOutside(4, Rivers::owned, "crownShares(5, #)", (y, n) -> y.crownShares(5, n));
        });
    }

    private static void owners(Sentences doc) {
        doc.under("Promise 17: owners");
        doc.test("Returns how many people own shares of it.", () -> {
            FerryRights x = Rivers.full();
            for (int person = 0; person < 12; person++) {
                due("owners(5, 3)", x.owners(5, 3), person);
                x.grant(5, 3, person, 1);
            }
            due("owners(5, 3), everybody", x.owners(5, 3), 12);
            due("owners(5, 2), nobody", x.owners(5, 2), 0);
            due("owners(4, 3), nobody", x.owners(4, 3), 0);
            x.give(0, 11, 5, 3, 1);
            due("owners(5, 3)", x.owners(5, 3), 11);
            due("owners(1, 0), one being dead", Rivers.lived().owners(1, 0), 0);
            due("owners(0, 0), the crown without any", Rivers.owned().owners(0, 0), 1);
        });
        doc.test(NO_WATCH, () -> {
            Checks.refusedOutside(2, Rivers::lived, "owners(#, 1)", (y, n) -> y.owners(n, 1));
            Checks.refusedOutside(4, Rivers::lived, "owners(0, #)", (y, n) -> y.owners(0, n));
            Checks.refusedOutside(6, Rivers::owned, "owners(#, 3)", (y, n) -> y.owners(n, 3));
            Checks.refusedOutside(4, Rivers::owned, "owners(5, #)", (y, n) -> y.owners(5, n));
        });
    }

    private static void holder(Sentences doc) {
        doc.under("Promise 18: holder");
        doc.test("Returns the person who owns the most shares of it", () -> {
            FerryRights x = Rivers.full();
            x.grant(5, 3, 11, 1);
            due("holder(5, 3), with less than the crown", x.holder(5, 3), 11);
            x.grant(5, 3, 4, 2);
            due("holder(5, 3)", x.holder(5, 3), 4);
            x.grant(5, 3, 8, 3);
            due("holder(5, 3)", x.holder(5, 3), 8);
            x.grant(5, 2, 0, 64);
            due("holder(5, 3), others having more of another watch", x.holder(5, 3), 8);
            due("holder(5, 2)", x.holder(5, 2), 0);
        });
        doc.test(", of several the smallest number.", () -> {
            FerryRights x = Rivers.full();
            x.grant(5, 3, 11, 5);
            x.grant(5, 3, 7, 5);
            due("holder(5, 3), of two", x.holder(5, 3), 7);
            x.grant(5, 3, 0, 5);
            due("holder(5, 3), of three", x.holder(5, 3), 0);
            x.grant(5, 3, 11, 1);
            due("holder(5, 3), of one", x.holder(5, 3), 11);
        });
        doc.test(NO_WATCH, () -> {
            Checks.refusedOutside(2, Rivers::lived, "holder(#, 1)", (y, n) -> y.holder(n, 1));
            Checks.refusedOutside(4, Rivers::lived, "holder(0, #)", (y, n) -> y.holder(0, n));
            Checks.refusedOutside(6, Rivers::owned, "holder(#, 3)", (y, n) -> y.holder(n, 3));
            Checks.refusedOutside(4, Rivers::owned, "holder(5, #)", (y, n) -> y.holder(5, n));
        });
        doc.test("Throws `IllegalStateException` if nobody owns any", () -> {
            Checks.refused(STATE, () -> Rivers.crowd(1, 0), "holder(0, 0), without people", y -> y.holder(0, 0));
            Checks.refused(STATE, Rivers::lived, "holder(0, 0), another watch having owners", y -> y.holder(0, 0));
            Checks.refused(STATE, Rivers::lived, "holder(1, 1), another ferry having owners", y -> y.holder(1, 1));
            Checks.refused(STATE, Rivers::lived, "holder(1, 0), the owner being dead", y -> y.holder(1, 0));
            Checks.refused(STATE, Rivers::died, "holder(0, 1), everybody being dead", y -> y.holder(0, 1));
        });
    }

    private static void master(Sentences doc) {
        doc.under("Promise 19: master");
        doc.test("Returns its master.", () -> {
            due("master(1), with 129 shares", Rivers.ruled().master(1), 2);
            FerryRights x = Rivers.full();
            for (int watch = 0; watch < 4; watch++) {
                x.grant(5, watch, 11, 33);
                x.grant(5, watch, 3, 31);
                x.grant(0, watch, 0, 64);
            }
            due("master(5)", x.master(5), 11);
            due("master(0)", x.master(0), 0);
        });
        doc.test(NO_FERRY, () -> {
            Checks.refusedOutside(0, Rivers::empty, "master(#)", FerryRights::master);
            Checks.refusedOutside(2, Rivers::ruled, "master(#)", FerryRights::master);
            Checks.refusedOutside(6, Rivers::owned, "master(#)", FerryRights::master);
        });
        doc.test("Throws `IllegalStateException` if it has none", () -> {
            Checks.refused(STATE, () -> Rivers.crowd(1, 0), "master(0), without people", y -> y.master(0));
            Checks.refused(STATE, Rivers::full, "master(0), nobody owning any", y -> y.master(0));
            Checks.refused(STATE, Rivers::ruled, "master(0), of 128 shares", y -> y.master(0));
            Checks.refused(STATE, () -> {
                FerryRights x = Rivers.ruled();
                x.give(2, 3, 1, 3, 1);
                return x;
            }, "master(1), of 128 shares", y -> y.master(1));
        });
    }

    private static void hasMaster(Sentences doc) {
        doc.under("Promise 20: hasMaster");
        doc.test("Returns whether it has a master.", () -> {
            FerryRights x = Rivers.ruled();
            due("hasMaster(1), with 129 shares", x.hasMaster(1), true);
            due("hasMaster(0), with 128 shares", x.hasMaster(0), false);
            x.grant(0, 1, 2, 1);
            due("hasMaster(0), with 129 shares", x.hasMaster(0), true);
            x.die(2);
            due("hasMaster(1), the shares being parted", x.hasMaster(1), false);
            due("hasMaster(0) without people", Rivers.crowd(1, 0).hasMaster(0), false);
            due("hasMaster(5), nobody owning any", Rivers.full().hasMaster(5), false);
        });
        doc.test(NO_FERRY, () -> {
            Checks.refusedOutside(0, Rivers::empty, "hasMaster(#)", FerryRights::hasMaster);
            Checks.refusedOutside(2, Rivers::ruled, "hasMaster(#)", FerryRights::hasMaster);
            Checks.refusedOutside(6, Rivers::owned, "hasMaster(#)", FerryRights::hasMaster);
        });
    }

    private static void shareValue(Sentences doc) {
        doc.under("Promise 21: shareValue");
        doc.test("Returns what a share of it is worth.", () -> {
            FerryRights x = Rivers.full();
            int[] traffic = {2, 4, 3, 1};
            for (int i = 0; i < 24; i++) {
                int want = 4 * (i / 4) * traffic[i % 4] + 1;
                due("shareValue(" + i / 4 + ", " + i % 4 + ")", x.shareValue(i / 4, i % 4), want);
            }
            FerryRights y = Rivers.ruled();
            y.setToll(1, 2, 0);
            due("shareValue(1, 1), of toll 0 now", y.shareValue(1, 1), 1);
        });
        doc.test(NO_WATCH, () -> {
            Checks.refusedOutside(2, Rivers::lived, "shareValue(#, 1)", (y, n) -> y.shareValue(n, 1));
            Checks.refusedOutside(4, Rivers::lived, "shareValue(0, #)", (y, n) -> y.shareValue(0, n));
            Checks.refusedOutside(6, Rivers::full, "shareValue(#, 3)", (y, n) -> y.shareValue(n, 3));
            Checks.refusedOutside(4, Rivers::full, "shareValue(5, #)", (y, n) -> y.shareValue(5, n));
        });
    }

    private static void watchAt(Sentences doc) {
        doc.under("Promise 22: watchAt");
        doc.test("Returns the watch of it.", () -> {
            FerryRights x = Rivers.empty();
            int[] first = {0, 6, 12, 18};
            int[] last = {5, 11, 17, 23};
            for (int watch = 0; watch < 4; watch++) {
                due("watchAt(" + first[watch] + ")", x.watchAt(first[watch]), watch);
                due("watchAt(" + last[watch] + ")", x.watchAt(last[watch]), watch);
            }
        });
        doc.test("Throws `IndexOutOfBoundsException` if hour is not 0 to 23", () -> {
            Checks.refusedOutside(24, Rivers::empty, "watchAt(#)", FerryRights::watchAt);
            Checks.refusedOutside(24, Rivers::full, "watchAt(#)", FerryRights::watchAt);
        });
    }

    private static void people(Sentences doc) {
        doc.under("Promise 23: people");
        doc.test("Returns how many people there are", () -> {
            FerryRights x = Rivers.crowd(1, 0);
            for (int i = 0; i < 12; i++) {
                due("people()", x.people(), i);
                if (i % 2 == 0) {
                    x.addPerson();
                } else {
                    x.addChild(i - 1);
                }
            }
            due("people()", x.people(), 12);
        });
        doc.test(", dead ones as well.", () -> {
            due("people(), one being dead", Rivers.lived().people(), 6);
            due("people(), all being dead", Rivers.died().people(), 6);
            due("people(), 11 being dead", fullAndDead().people(), 12);
        });
    }

    private static void living(Sentences doc) {
        doc.under("Promise 24: living");
        doc.test("Returns how many people are alive.", () -> {
            due("living(), nobody", Rivers.empty().living(), 0);
            due("living(), everybody", Rivers.full().living(), 12);
            due("living(), one being dead", Rivers.lived().living(), 5);
            due("living(), one alone", fullAndDead().living(), 1);
            FerryRights x = Rivers.died();
            due("living(), all being dead", x.living(), 0);
            x.addPerson();
            due("living(), a new one", x.living(), 1);
        });
    }

    private static void isAlive(Sentences doc) {
        doc.under("Promise 25: isAlive");
        doc.test("Returns whether this one is alive.", () -> {
            FerryRights x = fullAndDead();
            due("isAlive(0)", x.isAlive(0), false);
            due("isAlive(10)", x.isAlive(10), false);
            due("isAlive(11)", x.isAlive(11), true);
            due("isAlive(0)", Rivers.full().isAlive(0), true);
        });
        doc.test(NO_PERSON, () -> {
            Checks.refusedOutside(6, Rivers::lived, "isAlive(#)", FerryRights::isAlive);
            Checks.refusedOutside(12, Rivers::full, "isAlive(#)", FerryRights::isAlive);
        });
    }

    private static void coins(Sentences doc) {
        doc.under("Promise 26: coins");
        doc.test("Returns how many coins this one has.", () -> {
            FerryRights x = Rivers.owned();
            due("coins(0), the most", x.coins(0), 9999);
            due("coins(11), the most", x.coins(11), 9999);
            due("coins(5), none", x.coins(5), 0);
            due("coins(4) of a dead one", Rivers.lived().coins(4), 0);
            x.buy(11, 0, 0, 0);
            due("coins(11)", x.coins(11), 9935);
        });
        doc.test(NO_PERSON, () -> {
            Checks.refusedOutside(6, Rivers::lived, "coins(#)", FerryRights::coins);
            Checks.refusedOutside(12, Rivers::owned, "coins(#)", FerryRights::coins);
        });
    }

    private static void earned(Sentences doc) {
        doc.under("Promise 27: earned");
        doc.test("Returns how many coins of tolls this one got in all", () -> {
            FerryRights x = Rivers.lived();
            due("earned(0)", x.earned(0), 19);
            due("earned(1)", x.earned(1), 4);
            due("earned(2), none", x.earned(2), 0);
            due("earned(4), being paid alone", x.earned(4), 0);
            x.carry(0, 11, 64);
            due("earned(0)", x.earned(0), 19 + 123);
            x.die(0);
            due("earned(0) of a dead one", x.earned(0), 142);
            due("earned(3) of an heir", x.earned(3), 0);
        });
        doc.test(" (those that were lost as well).", () -> {
            FerryRights x = Rivers.owned();
            x.carry(5, 18, 1);
            due("earned(11), all being lost", x.earned(11), 20);
            x.carry(5, 23, 200);
            due("earned(11), all being lost", x.earned(11), 4020);
            due("coins(11)", x.coins(11), 9999);
        });
        doc.test(NO_PERSON, () -> {
            Checks.refusedOutside(6, Rivers::lived, "earned(#)", FerryRights::earned);
            Checks.refusedOutside(12, Rivers::owned, "earned(#)", FerryRights::earned);
        });
    }

    private static void allShares(Sentences doc) {
        doc.under("Promise 28: allShares");
        doc.test("Returns how many shares of all ferries and watches this one owns.", () -> {
            FerryRights x = Rivers.full();
            due("allShares(0), none", x.allShares(0), 0);
            for (int i = 0; i < 24; i++) {
                x.grant(i / 4, i % 4, 11, 64);
                due("allShares(11)", x.allShares(11), 64 * (i + 1));
            }
            due("allShares(10), none", x.allShares(10), 0);
            x.die(11);
            due("allShares(11) of a dead one", x.allShares(11), 0);
            due("allShares(1), half of it", x.allShares(1), 768);
        });
        doc.test(NO_PERSON, () -> {
            Checks.refusedOutside(6, Rivers::lived, "allShares(#)", FerryRights::allShares);
            Checks.refusedOutside(12, Rivers::owned, "allShares(#)", FerryRights::allShares);
        });
    }

    private static void hasParent(Sentences doc) {
        doc.under("Promise 29: hasParent");
        doc.test("Returns whether this one has a parent.", () -> {
            FerryRights x = Rivers.lived();
            due("hasParent(0)", x.hasParent(0), false);
            due("hasParent(1)", x.hasParent(1), true);
            due("hasParent(4)", x.hasParent(4), false);
            due("hasParent(5)", x.hasParent(5), true);
            due("hasParent(5), everybody being dead", Rivers.died().hasParent(5), true);
            due("hasParent(11)", Rivers.full().hasParent(11), true);
        });
        doc.test(NO_PERSON, () -> {
            Checks.refusedOutside(6, Rivers::lived, "hasParent(#)", FerryRights::hasParent);
            Checks.refusedOutside(12, Rivers::full, "hasParent(#)", FerryRights::hasParent);
        });
    }

    private static void parent(Sentences doc) {
        doc.under("Promise 30: parent");
        doc.test("Returns the parent", () -> {
            FerryRights x = Rivers.lived();
            due("parent(1), the number 0", x.parent(1), 0);
            due("parent(5)", x.parent(5), 1);
            due("parent(11)", Rivers.full().parent(11), 0);
        });
        doc.test(", alive or dead.", () -> {
            FerryRights x = Rivers.died();
            due("parent(1), both being dead", x.parent(1), 0);
            FerryRights y = Rivers.lived();
            y.die(1);
            due("parent(5), the parent being dead", y.parent(5), 1);
        });
        doc.test(NO_PERSON, () -> {
            Checks.refusedOutside(6, Rivers::lived, "parent(#)", FerryRights::parent);
            Checks.refusedOutside(12, Rivers::full, "parent(#)", FerryRights::parent);
        });
        doc.test("Throws `IllegalStateException` if there is none", () -> {
            Checks.refused(STATE, Rivers::lived, "parent(0)", y -> y.parent(0));
            Checks.refused(STATE, Rivers::lived, "parent(4), of a dead one", y -> y.parent(4));
            Checks.refused(STATE, () -> Rivers.crowd(1, 12), "parent(11)", y -> y.parent(11));
        });
    }

    private static void children(Sentences doc) {
        doc.under("Promise 31: children");
        doc.test("Returns how many children this one has", () -> {
            FerryRights x = Rivers.lived();
            due("children(0)", x.children(0), 3);
            due("children(1)", x.children(1), 1);
            due("children(5), none", x.children(5), 0);
            due("children(0), the most", Rivers.full().children(0), 11);
            due("children(11), none", Rivers.full().children(11), 0);
        });
        doc.test(", dead ones as well.", () -> {
            due("children(0), all being dead", fullAndDead().children(0), 11);
            due("children(0), everybody being dead", Rivers.died().children(0), 3);
        });
        doc.test(NO_PERSON, () -> {
            Checks.refusedOutside(6, Rivers::lived, "children(#)", FerryRights::children);
            Checks.refusedOutside(12, Rivers::full, "children(#)", FerryRights::children);
        });
    }

    private static void heirs(Sentences doc) {
        doc.under("Promise 32: heirs");
        doc.test("Returns how many heirs this one has now.", () -> {
            FerryRights x = Rivers.lived();
            due("heirs(0)", x.heirs(0), 3);
            due("heirs(1)", x.heirs(1), 1);
            due("heirs(2)", x.heirs(2), 2);
            due("heirs(5), none", x.heirs(5), 0);
            x.die(5);
            due("heirs(1), the child being dead", x.heirs(1), 2);
            x.addChild(1);
            due("heirs(1), with a child again", x.heirs(1), 1);
            due("heirs(0), the most", Rivers.full().heirs(0), 11);
            due("heirs(11), the most siblings", Rivers.full().heirs(11), 10);
        });
        doc.test("Returns how many heirs this one has now.", "a dead one too", () -> {
            FerryRights x = fullAndDead();
            due("heirs(0), a child", x.heirs(0), 1);
            due("heirs(10), a sibling", x.heirs(10), 1);
            due("heirs(11)", x.heirs(11), 0);
            due("heirs(4)", Rivers.lived().heirs(4), 0);
        });
        doc.test(NO_PERSON, () -> {
            Checks.refusedOutside(6, Rivers::lived, "heirs(#)", FerryRights::heirs);
            Checks.refusedOutside(12, Rivers::full, "heirs(#)", FerryRights::heirs);
        });
    }

    private static void heir(Sentences doc) {
        doc.under("Promise 33: heir");
        doc.test("Returns the heir there.", () -> {
            FerryRights x = Rivers.full();
            for (int place = 0; place < 11; place++) {
                due("heir(0, " + place + ")", x.heir(0, place), place + 1);
            }
            for (int place = 0; place < 10; place++) {
                due("heir(5, " + place + ")", x.heir(5, place), place < 4 ? place + 1 : place + 2);
            }
            x.die(1);
            due("heir(0, 0)", x.heir(0, 0), 2);
            due("heir(1, 9), of a dead one", x.heir(1, 9), 11);
        });
        doc.test("Throws `IndexOutOfBoundsException` if there is no such person", () -> {
            Checks.refusedOutside(6, Rivers::lived, "heir(#, 0)", (y, n) -> y.heir(n, 0));
            Checks.refusedOutside(12, Rivers::full, "heir(#, 0)", (y, n) -> y.heir(n, 0));
        });
        doc.test(" or place", () -> {
            Checks.refusedOutside(3, Rivers::lived, "heir(0, #)", (y, n) -> y.heir(0, n));
            Checks.refusedOutside(1, Rivers::lived, "heir(1, #)", (y, n) -> y.heir(1, n));
            Checks.refusedOutside(2, Rivers::lived, "heir(2, #)", (y, n) -> y.heir(2, n));
            Checks.refusedOutside(0, Rivers::lived, "heir(5, #), without an heir", (y, n) -> y.heir(5, n));
            Checks.refusedOutside(0, Rivers::lived, "heir(4, #), of a dead one", (y, n) -> y.heir(4, n));
            Checks.refusedOutside(11, Rivers::full, "heir(0, #)", (y, n) -> y.heir(0, n));
            Checks.refusedOutside(10, Rivers::full, "heir(11, #)", (y, n) -> y.heir(11, n));
        });
    }

    private static void crownCoins(Sentences doc) {
        doc.under("Promise 34: crownCoins");
        doc.test("Returns how many coins the crown got in all.", () -> {
            due("crownCoins() of a new object", Rivers.empty().crownCoins(), 0);
            FerryRights x = Rivers.lived();
            due("crownCoins(), of tolls and of a dead one", x.crownCoins(), 16);
            x.carry(1, 0, 200);
            due("crownCoins(), all tolls", x.crownCoins(), 4016);
            x.die(0);
            due("crownCoins(), there being heirs", x.crownCoins(), 4016);
            x.die(5);
            due("crownCoins(), of one without coins", x.crownCoins(), 4016);
            x.pay(1, 9999);
            x.die(2);
            x.die(3);
            due("crownCoins()", x.crownCoins(), 4016);
            x.die(1);
            due("crownCoins(), of the last one", x.crownCoins(), 4016 + 9999);
        });
    }

    private static void price(Sentences doc) {
        doc.under("Promise 35: price");
        doc.test("Returns the price of all shares of it that this person has", () -> {
            FerryRights x = Rivers.lived();
            due("price(0, 0, 1)", x.price(0, 0, 1), 533);
            due("price(1, 0, 1)", x.price(1, 0, 1), 130);
            due("price(0, 1, 3)", x.price(0, 1, 3), 210);
            x.grant(1, 1, 5, 64);
            due("price(5, 1, 1), the highest", x.price(5, 1, 1), 5184);
            due("price(0, 0, 0), of toll 0", Rivers.owned().price(0, 0, 0), 64);
            due("price(11, 5, 3)", Rivers.owned().price(11, 5, 3), 1344);
        });
        doc.test("; 0 without any.", () -> {
            FerryRights x = Rivers.lived();
            due("price(2, 0, 1)", x.price(2, 0, 1), 0);
            due("price(0, 0, 0), of another watch", x.price(0, 0, 0), 0);
            due("price(0, 1, 1), of another ferry", x.price(0, 1, 1), 0);
            due("price(4, 1, 0), of a dead one", x.price(4, 1, 0), 0);
        });
        doc.test(NO_SALE, () -> {
            Checks.refusedOutside(6, Rivers::lived, "price(#, 0, 1)", (y, n) -> y.price(n, 0, 1));
            Checks.refusedOutside(2, Rivers::lived, "price(0, #, 1)", (y, n) -> y.price(0, n, 1));
            Checks.refusedOutside(4, Rivers::lived, "price(0, 0, #)", (y, n) -> y.price(0, 0, n));
            Checks.refusedOutside(12, Rivers::owned, "price(#, 5, 3)", (y, n) -> y.price(n, 5, 3));
            Checks.refusedOutside(6, Rivers::owned, "price(11, #, 3)", (y, n) -> y.price(11, n, 3));
            Checks.refusedOutside(4, Rivers::owned, "price(11, 5, #)", (y, n) -> y.price(11, 5, n));
        });
    }

    private static void canBuy(Sentences doc) {
        doc.under("Promise 36: canBuy");
        doc.test("Returns whether the first one can buy all shares of it from the second one.", () -> {
            FerryRights x = Rivers.lived();
            due("canBuy(1, 0, 1, 3)", x.canBuy(1, 0, 1, 3), true);
            due("canBuy(0, 1, 1, 3), from one without any", x.canBuy(0, 1, 1, 3), false);
            due("canBuy(2, 0, 1, 3), with 40 of 210 coins", x.canBuy(2, 0, 1, 3), false);
            due("canBuy(0, 0, 1, 3), from oneself", x.canBuy(0, 0, 1, 3), false);
            due("canBuy(1, 0, 0, 1), with 504 of 533 coins", x.canBuy(1, 0, 0, 1), false);
            x.pay(1, 28);
            due("canBuy(1, 0, 0, 1), with 532 of 533 coins", x.canBuy(1, 0, 0, 1), false);
            x.pay(1, 1);
            due("canBuy(1, 0, 0, 1), with 533 coins", x.canBuy(1, 0, 0, 1), true);
            due("canBuy(0, 1, 0, 1), with 119 of 130 coins", x.canBuy(0, 1, 0, 1), false);
            x.pay(0, 11);
            due("canBuy(0, 1, 0, 1), with 130 coins", x.canBuy(0, 1, 0, 1), true);
            x.pay(2, 500);
            due("canBuy(2, 0, 0, 1), a co-owner having 533 coins", x.canBuy(2, 0, 0, 1), false);
            due("canBuy(2, 1, 0, 1), a co-owner having 130 coins", x.canBuy(2, 1, 0, 1), false);
        });
        doc.test("Returns whether the first one can buy all shares of it from the second one.", "first and last", () -> {
            FerryRights x = Rivers.owned();
            due("canBuy(0, 11, 5, 3)", x.canBuy(0, 11, 5, 3), true);
            due("canBuy(11, 0, 0, 0)", x.canBuy(11, 0, 0, 0), true);
            due("canBuy(5, 0, 0, 0), without coins", x.canBuy(5, 0, 0, 0), false);
            x.give(11, 10, 5, 3, 1);
            x.pay(10, 1322);
            due("canBuy(0, 11, 5, 3), the other owner a coin short", x.canBuy(0, 11, 5, 3), true);
            x.pay(10, 1);
            due("canBuy(0, 11, 5, 3), the other owner with the price", x.canBuy(0, 11, 5, 3), false);
            due("canBuy(10, 11, 5, 3), by the other owner", x.canBuy(10, 11, 5, 3), true);
        });
        doc.test(NO_SALE, () -> {
            Checks.refusedOutside(6, Rivers::lived, "canBuy(#, 0, 1, 3)", (y, n) -> y.canBuy(n, 0, 1, 3));
            Checks.refusedOutside(6, Rivers::lived, "canBuy(1, #, 1, 3)", (y, n) -> y.canBuy(1, n, 1, 3));
            Checks.refusedOutside(2, Rivers::lived, "canBuy(1, 0, #, 3)", (y, n) -> y.canBuy(1, 0, n, 3));
            Checks.refusedOutside(4, Rivers::lived, "canBuy(1, 0, 1, #)", (y, n) -> y.canBuy(1, 0, 1, n));
            Checks.refusedOutside(12, Rivers::owned, "canBuy(#, 11, 5, 3)", (y, n) -> y.canBuy(n, 11, 5, 3));
            Checks.refusedOutside(12, Rivers::owned, "canBuy(0, #, 5, 3)", (y, n) -> y.canBuy(0, n, 5, 3));
            Checks.refusedOutside(6, Rivers::owned, "canBuy(0, 11, #, 3)", (y, n) -> y.canBuy(0, 11, n, 3));
            Checks.refusedOutside(4, Rivers::owned, "canBuy(0, 11, 5, #)", (y, n) -> y.canBuy(0, 11, 5, n));
        });
    }

    private static void inheritance(Sentences doc) {
        doc.under("Promise 37: inheritance");
        doc.test("Returns how many shares of it the second one would get, if the first one died now", () -> {
            FerryRights x = Rivers.full();
            x.grant(5, 3, 0, 64);
            x.grant(0, 0, 0, 1);
            int[] want = {0, 32, 4, 4, 3, 3, 3, 3, 3, 3, 3, 3};
            for (int heir = 0; heir < 12; heir++) {
                due("inheritance(0, " + heir + ", 5, 3)", x.inheritance(0, heir, 5, 3), want[heir]);
                due("inheritance(0, " + heir + ", 0, 0)", x.inheritance(0, heir, 0, 0), heir == 1 ? 1 : 0);
                due("inheritance(0, " + heir + ", 5, 2)", x.inheritance(0, heir, 5, 2), 0);
            }
            FerryRights y = Rivers.lived();
            due("inheritance(1, 5, 0, 1), of one alone", y.inheritance(1, 5, 0, 1), 10);
            due("inheritance(0, 1, 0, 1), without what one has", y.inheritance(0, 1, 0, 1), 21);
        });
        doc.test("Returns how many shares of it the second one would get, if the first one died now", "a sibling", () -> {
            FerryRights x = Rivers.full();
            x.grant(5, 3, 11, 3);
            due("inheritance(11, 1, 5, 3)", x.inheritance(11, 1, 5, 3), 2);
            due("inheritance(11, 2, 5, 3)", x.inheritance(11, 2, 5, 3), 1);
            due("inheritance(11, 3, 5, 3)", x.inheritance(11, 3, 5, 3), 0);
        });
        doc.test("Returns how many shares of it the second one would get, if the first one died now", "heirs with heirs", () -> {
            FerryRights x = Rivers.family(4);
            x.addChild(3);
            x.grant(0, 1, 0, 20);
            x.grant(0, 2, 2, 7);
            int[] children = {0, 10, 4, 3, 3, 0};
            int[] siblings = {0, 4, 0, 2, 1, 0};
            for (int heir = 0; heir < 6; heir++) {
                due("inheritance(0, " + heir + ", 0, 1), of a child", x.inheritance(0, heir, 0, 1), children[heir]);
                due("inheritance(2, " + heir + ", 0, 2), of a sibling", x.inheritance(2, heir, 0, 2), siblings[heir]);
            }
        });
        doc.test("; 0 if this one is no heir", () -> {
            FerryRights x = Rivers.lived();
            due("inheritance(0, 0, 0, 1), of oneself", x.inheritance(0, 0, 0, 1), 0);
            due("inheritance(0, 4, 0, 1), of a dead one", x.inheritance(0, 4, 0, 1), 0);
            due("inheritance(0, 5, 0, 1), of a child's child", x.inheritance(0, 5, 0, 1), 0);
            due("inheritance(1, 0, 0, 1), of the parent", x.inheritance(1, 0, 0, 1), 0);
            due("inheritance(1, 2, 0, 1), of a sibling, there being a child", x.inheritance(1, 2, 0, 1), 0);
            x.die(2);
            due("inheritance(0, 2, 0, 1), of a dead child", x.inheritance(0, 2, 0, 1), 0);
            x.addPerson();
            due("inheritance(0, 6, 0, 1), of one without a parent", x.inheritance(0, 6, 0, 1), 0);
        });
        doc.test(" (nothing is changed).", () -> {
            FerryRights x = Rivers.lived();
            String before = Checks.tellAll(x);
            for (int person = 0; person < 6; person++) {
                x.inheritance(0, person, 0, 1);
                x.inheritance(person, 5, 0, 1);
            }
            Checks.dueText("all that can be asked", Checks.tellAll(x), before);
        });
        doc.test(NO_SALE, () -> {
            Checks.refusedOutside(6, Rivers::lived, "inheritance(#, 1, 0, 1)", (y, n) -> y.inheritance(n, 1, 0, 1));
            Checks.refusedOutside(6, Rivers::lived, "inheritance(0, #, 0, 1)", (y, n) -> y.inheritance(0, n, 0, 1));
            Checks.refusedOutside(2, Rivers::lived, "inheritance(0, 1, #, 1)", (y, n) -> y.inheritance(0, 1, n, 1));
            Checks.refusedOutside(4, Rivers::lived, "inheritance(0, 1, 0, #)", (y, n) -> y.inheritance(0, 1, 0, n));
            Checks.refusedOutside(2, Rivers::lived, "inheritance(0, 4, #, 1), of no heir", (y, n) -> y.inheritance(0, 4, n, 1));
            Checks.refusedOutside(4, Rivers::lived, "inheritance(0, 4, 0, #), of no heir", (y, n) -> y.inheritance(0, 4, 0, n));
            Checks.refusedOutside(12, Rivers::full, "inheritance(#, 11, 5, 3)", (y, n) -> y.inheritance(n, 11, 5, 3));
            Checks.refusedOutside(12, Rivers::full, "inheritance(0, #, 5, 3)", (y, n) -> y.inheritance(0, n, 5, 3));
            Checks.refusedOutside(6, Rivers::full, "inheritance(0, 11, #, 3)", (y, n) -> y.inheritance(0, 11, n, 3));
            Checks.refusedOutside(4, Rivers::full, "inheritance(0, 11, 5, #)", (y, n) -> y.inheritance(0, 11, 5, n));
        });
    }

    private static void fare(Sentences doc) {
        doc.under("Promise 38: fare");
        doc.test("Returns how many coins of tolls this person would get, if they were carried in this hour", () -> {
            FerryRights x = Rivers.lived();
            due("fare(0, 0, 6, 64)", x.fare(0, 0, 6, 64), 123);
            due("fare(0, 0, 11, 1)", x.fare(0, 0, 11, 1), 1);
            due("fare(1, 0, 6, 2), of 60 / 64", x.fare(1, 0, 6, 2), 0);
            due("fare(1, 0, 6, 3), of 90 / 64", x.fare(1, 0, 6, 3), 1);
            due("fare(0, 0, 5, 200), of another watch", x.fare(0, 0, 5, 200), 0);
            due("fare(0, 0, 12, 200), of another watch", x.fare(0, 0, 12, 200), 0);
            due("fare(2, 0, 6, 200), without shares", x.fare(2, 0, 6, 200), 0);
            due("fare(4, 1, 0, 200), of a dead one", x.fare(4, 1, 0, 200), 0);
            due("fare(0, 0, 0, 200), of toll 0", Rivers.owned().fare(0, 0, 0, 200), 0);
        });
        doc.test(", also those that would be lost", () -> {
            FerryRights x = Rivers.owned();
            due("fare(11, 5, 18, 1)", x.fare(11, 5, 18, 1), 20);
            due("fare(11, 5, 23, 200), the most", x.fare(11, 5, 23, 200), 4000);
        });
        doc.test(" (nothing is changed).", () -> {
            FerryRights x = Rivers.lived();
            String before = Checks.tellAll(x);
            for (int person = 0; person < 6; person++) {
                x.fare(person, 0, 7, 200);
                x.fare(person, 1, 23, 1);
            }
            Checks.dueText("all that can be asked", Checks.tellAll(x), before);
        });
        doc.test("Throws `IndexOutOfBoundsException` if there is no such person or ferry", () -> {
            Checks.refusedOutside(6, Rivers::lived, "fare(#, 0, 7, 1)", (y, n) -> y.fare(n, 0, 7, 1));
            Checks.refusedOutside(2, Rivers::lived, "fare(0, #, 7, 1)", (y, n) -> y.fare(0, n, 7, 1));
            Checks.refusedOutside(12, Rivers::owned, "fare(#, 5, 23, 1)", (y, n) -> y.fare(n, 5, 23, 1));
            Checks.refusedOutside(6, Rivers::owned, "fare(11, #, 23, 1)", (y, n) -> y.fare(11, n, 23, 1));
        });
        doc.test(", or hour is not 0 to 23", () -> {
            due("fare(0, 0, 0, 1)", Rivers.lived().fare(0, 0, 0, 1), 0);
            due("fare(0, 1, 23, 64)", Rivers.lived().fare(0, 1, 23, 64), 200);
            Checks.refusedOutside(24, Rivers::lived, "fare(0, 0, #, 1)", (y, n) -> y.fare(0, 0, n, 1));
        });
        doc.test("Throws `IllegalArgumentException` if passengers is not 1 to 200", () -> {
            due("fare(11, 5, 23, 1)", Rivers.owned().fare(11, 5, 23, 1), 20);
            due("fare(11, 5, 23, 200)", Rivers.owned().fare(11, 5, 23, 200), 4000);
            Checks.refusedEach(VALUE, Rivers::lived, "fare(0, 0, 7, #)", Checks.notIn(1, 200), (y, n) -> y.fare(0, 0, 7, n));
        });
    }

    private static void richest(Sentences doc) {
        doc.under("Promise 39: richest");
        doc.test("Returns the living person with the most coins", () -> {
            FerryRights x = Rivers.lived();
            due("richest()", x.richest(), 1);
            x.pay(5, 505);
            due("richest(), by a coin", x.richest(), 5);
            x.die(5);
            due("richest(), that one being dead", x.richest(), 1);
            due("richest(), one alone without coins", fullAndDead().richest(), 11);
        });
        doc.test(", of several the smallest number.", () -> {
            due("richest(), nobody having coins", Rivers.full().richest(), 0);
            due("richest(), the first and the last", Rivers.owned().richest(), 0);
            FerryRights x = Rivers.full();
            x.pay(11, 3);
            x.pay(7, 3);
            due("richest()", x.richest(), 7);
            FerryRights y = Rivers.crowd(1, 3);
            y.die(0);
            due("richest(), a dead one having as much", y.richest(), 1);
        });
        doc.test("Throws `IllegalStateException` if nobody is alive", () -> {
            Checks.refused(STATE, Rivers::empty, "richest(), without people", y -> y.richest());
            Checks.refused(STATE, Rivers::died, "richest(), all being dead", y -> y.richest());
        });
    }

    private static void meanCoins(Sentences doc) {
        doc.under("Promise 40: meanCoins");
        doc.test("Returns the mean of coins of living people", () -> {
            FerryRights x = Rivers.crowd(1, 3);
            due("meanCoins(), nobody having coins", x.meanCoins(), 0.0);
            x.pay(2, 1);
            due("meanCoins(), not cut", x.meanCoins(), 1.0 / 3.0);
            x.pay(1, 1);
            due("meanCoins(), not cut", x.meanCoins(), 2.0 / 3.0);
            x.die(0);
            due("meanCoins(), without a dead one", x.meanCoins(), 1.0);
            FerryRights y = Rivers.full();
            for (int person = 0; person < 12; person++) {
                y.pay(person, 9999);
            }
            due("meanCoins(), the highest", y.meanCoins(), 9999.0);
            y.pay(0, 1);
            due("meanCoins(), the highest", y.meanCoins(), 9999.0);
            due("meanCoins() of 663 coins", Rivers.lived().meanCoins(), 663.0 / 5.0);
        });
        doc.test("; 0 without any.", () -> {
            due("meanCoins(), without people", Rivers.empty().meanCoins(), 0.0);
            due("meanCoins(), all being dead", Rivers.died().meanCoins(), 0.0);
        });
    }

    private static BigInteger exactDigest(long... numbers) {
        BigInteger d = BigInteger.valueOf(1861);
        for (long x : numbers) {
            d = d.multiply(BigInteger.valueOf(31)).add(BigInteger.valueOf(x));
        }
        return d;
    }

    private static void dueDigest(String what, FerryRights x, long... numbers) {
        due("digest() " + what, x.digest(), exactDigest(numbers).longValue());
    }

    private static void digest(Sentences doc) {
        doc.under("Promise 41: digest");
        doc.test("Computes a checksum.", () -> {
            FerryRights x = Rivers.lived();
            String before = Checks.tellAll(x);
            due("digest() twice", x.digest(), x.digest());
            Checks.dueText("all that can be asked", Checks.tellAll(x), before);
            due("digest() of a river alike", Rivers.lived().digest(), x.digest());
        });
        doc.test(" A number d starts with 1861", () -> {
            due("digest() of a new object", Rivers.empty().digest(), 1861L * 923521L);
        });
        doc.test("; for each of the following numbers x, d becomes d * 31 + x", () -> {
            due("digest() of 2 ferries of the tolls 1 and 2", twoFerries().digest(), digestOf(2, 0, 0, 0, 1, 0, 2, 0));
        });
        doc.test(", which wraps around as a 64-bit integer", "the last that does not", () -> {
            FerryRights x = Rivers.empty();
            x.addPerson();
            x.pay(0, 9999);
            BigInteger exact = exactDigest(0, 1, 1, 0, 1, 9999, 0, 0, 0, 0);
            due("the exact number fits", exact.bitLength() < 64, true);
            due("digest()", x.digest(), exact.longValue());
            due("digest()", x.digest(), 1525329131737837843L);
        });
        wrapAround(doc);
        doc.test(" (whether something is so counts 1 or 0)", () -> {
            FerryRights x = Rivers.empty();
            x.addPerson();
            dueDigest("with somebody alive", x, 0, 1, 1, 0, 1, 0, 0, 0, 0, 0);
            x.die(0);
            dueDigest("with somebody dead", x, 0, 1, 0, 0, 0, 0, 0, 0, 0, 0);
        });
        numbersOfDigest(doc);
        doc.test("Returns d.", () -> {
            due("digest() of a ferry of toll 20", Rivers.crowd(20, 0).digest(), digestOf(1, 0, 0, 0, 20, 0));
        });
    }

    private static FerryRights twoFerries() {
        FerryRights x = Rivers.empty();
        x.addFerry(1);
        x.addFerry(2);
        return x;
    }

    private static long digestOf(long... numbers) {
        long d = 1861;
        for (long x : numbers) {
            d = d * 31 + x;
        }
        return d;
    }

    private static void wrapAround(Sentences doc) {
        String words = ", which wraps around as a 64-bit integer";
        doc.test(words, "the first that does", () -> {
            FerryRights x = Rivers.empty();
            for (int i = 0; i < 4; i++) {
                x.addFerry(20);
            }
            BigInteger exact = exactDigest(4, 0, 0, 0, 20, 0, 20, 0, 20, 0, 20, 0);
            due("the exact number does not fit", exact.bitLength() > 64, true);
            due("digest()", x.digest(), exact.longValue());
        });
        doc.test(words, "to a number below 0", () -> {
            FerryRights x = Rivers.crowd(1, 1);
            dueDigest("of a ferry and a person", x, 1, 1, 1, 0, 1, 0, 0, 0, 0, 0, 1, 0, 0, 0, 0, 0);
            due("digest()", x.digest(), -2048279100974666494L);
        });
        doc.test(words, "of a full river, many times", () -> {
            FerryRights x = Rivers.full();
            long[] numbers = new long[4 + 6 * 50 + 12 * 6];
            numbers[0] = 6;
            numbers[1] = 12;
            numbers[2] = 12;
            for (int ferry = 0; ferry < 6; ferry++) {
                numbers[4 + 50 * ferry] = 4 * ferry;
            }
            for (int person = 0; person < 12; person++) {
                numbers[304 + 6 * person] = 1;
                numbers[304 + 6 * person + 4] = person == 0 ? 11 : 0;
                numbers[304 + 6 * person + 5] = person == 0 ? 11 : 10;
            }
            dueDigest("of a full river", x, numbers);
        });
    }

    /** 2 ferries and 3 people, with numbers that are all of their own. */
    private static FerryRights varied() {
        FerryRights x = Rivers.crowd(7, 2);
        x.addFerry(9);
        x.addChild(1);
        x.grant(0, 0, 0, 1);
        x.grant(0, 1, 1, 2);
        x.grant(0, 2, 2, 3);
        x.grant(0, 3, 0, 64);
        x.grant(1, 0, 1, 5);
        x.grant(1, 1, 2, 6);
        x.pay(1, 50);
        x.carry(0, 18, 4);
        x.carry(1, 12, 3);
        x.die(0);
        return x;
    }

    private static void numbersOfDigest(Sentences doc) {
        long[] river = {2, 3, 2, 55};
        long[] first = {7, 4, 0, 0, 0, 0, 2, 0, 0, 0, 3, 0, 0, 0};
        long[] second = {9, 3, 0, 5, 0, 0, 0, 6, 0, 0, 0, 0, 0, 0};
        doc.test(": ferries(), people(), living(), crownCoins()", () -> {
            dueDigest("without people", carriedOnce(), 1, 0, 0, 66, 6, 11);
        });
        doc.test("; for each ferry toll(), carried(), then for each watch for each person shares()", () -> {
            long[] people = {0, 0, 28, 0, 0, 0, 1, 50, 0, 7, 1, 1, 1, 0, 0, 9, 0, 0};
            dueDigest("of two ferries", varied(), join(river, first, second, people));
        });
        doc.test("; for each person isAlive(), coins(), earned(), allShares(), children(), heirs().", () -> {
            FerryRights x = varied();
            x.pay(1, 7);
            x.pay(2, 8);
            long[] people = {0, 0, 28, 0, 0, 0, 1, 57, 0, 7, 1, 1, 1, 8, 0, 9, 0, 0};
            dueDigest("of three people", x, join(river, first, second, people));
        });
    }

    private static FerryRights carriedOnce() {
        FerryRights x = Rivers.crowd(6, 0);
        x.carry(0, 0, 11);
        return x;
    }

    private static long[] join(long[]... parts) {
        int length = 0;
        for (long[] part : parts) {
            length += part.length;
        }
        long[] all = new long[length];
        int at = 0;
        for (long[] part : parts) {
            System.arraycopy(part, 0, all, at, part.length);
            at += part.length;
        }
        return all;
    }

    public static void main(String[] args) throws IOException {
        Sentences doc = new Sentences();
        newObject(doc);
        addFerry(doc);
        addPerson(doc);
        addChild(doc);
        pay(doc);
        grant(doc);
        give(doc);
        buy(doc);
        setToll(doc);
        carry(doc);
        die(doc);
        ferries(doc);
        toll(doc);
        carried(doc);
        shares(doc);
        crownShares(doc);
        owners(doc);
        holder(doc);
        master(doc);
        hasMaster(doc);
        shareValue(doc);
        watchAt(doc);
        people(doc);
        living(doc);
        isAlive(doc);
        coins(doc);
        earned(doc);
        allShares(doc);
        hasParent(doc);
        parent(doc);
        children(doc);
        heirs(doc);
        heir(doc);
        crownCoins(doc);
        price(doc);
        canBuy(doc);
        inheritance(doc);
        fare(doc);
        richest(doc);
        meanCoins(doc);
        digest(doc);
        doc.needAll("Promise", 41);
        doc.end();
    }
}
