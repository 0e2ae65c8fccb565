import java.io.IOException;
import java.util.function.Supplier;

/** What 'Terms' says for all promises: its clauses one by one, at their edges. */
public final class FerryRightsTerms {
    private static final Class<?> PLACE = Checks.PLACE;
    private static final Class<?> VALUE = Checks.VALUE;
    private static final Class<?> STATE = Checks.STATE;

    private static void due(String call, long got, long want) {
        Checks.due(call, got, want);
    }

    private static void due(String call, boolean got, boolean want) {
        Checks.due(call, got, want);
    }

    private static void dueShares(FerryRights x, int ferry, int watch, int... want) {
        for (int person = 0; person < want.length; person++) {
            due("shares(" + ferry + ", " + watch + ", " + person + ")", x.shares(ferry, watch, person), want[person]);
        }
    }

    private static void dueCoins(FerryRights x, int... want) {
        for (int person = 0; person < want.length; person++) {
            due("coins(" + person + ")", x.coins(person), want[person]);
        }
    }

    private static void dueHeirs(FerryRights x, int person, int... want) {
        due("heirs(" + person + ")", x.heirs(person), want.length);
        for (int place = 0; place < want.length; place++) {
            due("heir(" + person + ", " + place + ")", x.heir(person, place), want[place]);
        }
        try {
            due("heir(" + person + ") behind the last place", x.heir(person, want.length), -1);
        } catch (IndexOutOfBoundsException e) {
            due("the exception is just the one that is named", e.getClass() == PLACE, true);
        }
    }

    private static void overview(Sentences doc) {
        doc.test("The right to a ferry is divided into shares for each watch of the day", () -> {
            FerryRights x = Rivers.full();
            for (int i = 0; i < 24; i++) {
                x.grant(i / 4, i % 4, 7, i + 1);
            }
            for (int i = 0; i < 24; i++) {
                due("shares of ferry " + i / 4 + ", watch " + i % 4, x.shares(i / 4, i % 4, 7), i + 1);
                due("crownShares of ferry " + i / 4 + ", watch " + i % 4, x.crownShares(i / 4, i % 4), 63 - i);
            }
        });
        doc.test("; shares are granted by the crown, given, bought, and left to heirs, the eldest of whom has half", () -> {
            FerryRights x = Rivers.crowd(0, 2);
            x.addChild(0);
            x.addChild(0);
            x.addChild(0);
            x.grant(0, 3, 1, 64);
            x.give(1, 2, 0, 3, 64);
            x.pay(0, 64);
            x.buy(0, 2, 0, 3);
            x.die(0);
            dueShares(x, 0, 3, 0, 0, 32, 16, 16);
        });
        doc.test("; co-owners come ahead of people from outside when shares are bought", () -> {
            FerryRights x = Rivers.crowd(0, 3);
            x.grant(0, 0, 0, 5);
            x.grant(0, 0, 1, 5);
            x.pay(1, 5);
            x.pay(2, 5);
            due("canBuy by one from outside", x.canBuy(2, 0, 0, 0), false);
            due("canBuy by the co-owner", x.canBuy(1, 0, 0, 0), true);
        });
        doc.test("; fares are shared", () -> {
            FerryRights x = Rivers.crowd(1, 3);
            x.grant(0, 0, 0, 32);
            x.grant(0, 0, 2, 16);
            due("carry(0, 0, 64)", x.carry(0, 0, 64), 16);
            dueCoins(x, 32, 0, 16);
        });
        doc.test("; and one can ask who owns what, who may say the toll, what shares are worth,"
                + " who would inherit them, who can buy them, and who is the richest.", () -> {
            FerryRights x = Rivers.ruled();
            due("shares", x.shares(1, 3, 2), 33);
            due("master", x.master(1), 2);
            due("shareValue", x.shareValue(1, 3), 21);
            due("heir", x.heir(2, 0), 1);
            due("canBuy", x.canBuy(1, 0, 1, 3), true);
            due("richest", x.richest(), 1);
        });
        doc.test("All numbers are whole, and / is cut towards 0.", () -> {
            FerryRights x = Rivers.crowd(1, 2);
            x.grant(0, 0, 0, 63);
            x.grant(0, 0, 1, 1);
            due("fare of 63 / 64", x.fare(0, 0, 0, 1), 0);
            due("fare of 126 / 64", x.fare(0, 0, 0, 2), 1);
            due("fare of 63 / 64", x.fare(1, 0, 0, 63), 0);
            due("fare of 64 / 64", x.fare(1, 0, 0, 64), 1);
            due("fare of 127 / 64", x.fare(1, 0, 0, 127), 1);
            due("fare of 128 / 64", x.fare(1, 0, 0, 128), 2);
        });
    }

    private static void ferries(Sentences doc) {
        doc.test("Ferries. At most 6", () -> {
            due("ferries()", Rivers.full().ferries(), 6);
            Checks.refused(STATE, Rivers::full, "addFerry(1), the 7th", x -> x.addFerry(1));
        });
        doc.test(", numbered from 0", () -> {
            FerryRights x = Rivers.empty();
            for (int i = 0; i < 6; i++) {
                due("addFerry(20 - " + i + ")", x.addFerry(20 - i), i);
            }
            for (int i = 0; i < 6; i++) {
                due("toll(" + i + ")", x.toll(i), 20 - i);
            }
        });
        doc.test("; each has a toll, 0 to 20 coins", () -> {
            FerryRights x = Rivers.ruled();
            x.addFerry(0);
            x.addFerry(20);
            due("toll(2)", x.toll(2), 0);
            due("toll(3)", x.toll(3), 20);
            due("setToll(1, 2, 0)", x.setToll(1, 2, 0), 20);
            due("setToll(1, 2, 20)", x.setToll(1, 2, 20), 0);
            Checks.refusedEach(VALUE, Rivers::lived, "addFerry(#)", Checks.notIn(0, 20), FerryRights::addFerry);
            Checks.refusedEach(VALUE, Rivers::ruled, "setToll(1, 2, #)", Checks.notIn(0, 20), (y, n) -> y.setToll(1, 2, n));
        });
        doc.test(" for each passenger.", () -> {
            FerryRights x = Rivers.full();
            due("carry(0, 0, 200) of toll 0", x.carry(0, 0, 200), 0);
            due("carry(1, 0, 1) of toll 4", x.carry(1, 0, 1), 4);
            due("carry(5, 0, 1) of toll 20", x.carry(5, 0, 1), 20);
            due("carry(5, 0, 200) of toll 20", x.carry(5, 0, 200), 4000);
        });
        doc.test(" A day has 24 hours, 0 to 23", () -> {
            FerryRights x = Rivers.lived();
            due("carry(0, 0, 1)", x.carry(0, 0, 1), 3);
            due("carry(0, 23, 1)", x.carry(0, 23, 1), 3);
            due("fare(0, 0, 0, 1)", x.fare(0, 0, 0, 1), 0);
            due("fare(0, 0, 23, 1)", x.fare(0, 0, 23, 1), 0);
            due("watchAt(0)", x.watchAt(0), 0);
            due("watchAt(23)", x.watchAt(23), 3);
            Checks.refusedOutside(24, Rivers::lived, "watchAt(#)", FerryRights::watchAt);
            Checks.refusedOutside(24, Rivers::lived, "carry(0, #, 1)", (y, n) -> y.carry(0, n, 1));
            Checks.refusedOutside(24, Rivers::lived, "fare(0, 0, #, 1)", (y, n) -> y.fare(0, 0, n, 1));
        });
    }

    private static void watches(Sentences doc) {
        doc.test(", and four watches:", () -> {
            FerryRights x = Rivers.lived();
            due("grant(0, 0, 1, 1)", x.grant(0, 0, 1, 1), 63);
            due("grant(0, 3, 1, 1)", x.grant(0, 3, 1, 1), 63);
            Checks.refusedOutside(4, Rivers::lived, "grant(0, #, 1, 1)", (y, n) -> y.grant(0, n, 1, 1));
        });
        int[] first = {0, 6, 12, 18};
        int[] last = {5, 11, 17, 23};
        String[] words = {" 0 dawn (hours 0 to 5)", ", 1 day (6 to 11)", ", 2 dusk (12 to 17)", ", 3 night (18 to 23)"};
        for (int i = 0; i < 4; i++) {
            int watch = i;
            doc.test(words[watch], () -> {
                FerryRights x = Rivers.crowd(2, 1);
                x.grant(0, watch, 0, 64);
                for (int hour = 0; hour < 24; hour++) {
                    boolean in = hour >= first[watch] && hour <= last[watch];
                    due("watchAt(" + hour + ") is it", x.watchAt(hour) == watch, in);
                    due("fare(0, 0, " + hour + ", 7)", x.fare(0, 0, hour, 7), in ? 14 : 0);
                    due("carry(0, " + hour + ", 5)", x.carry(0, hour, 5), in ? 0 : 10);
                }
                dueCoins(x, 60);
            });
        }
        doc.test("; their traffic is 2, 4, 3 and 1.", () -> {
            FerryRights x = Rivers.crowd(1, 0);
            int[] traffic = {2, 4, 3, 1};
            for (int watch = 0; watch < 4; watch++) {
                due("shareValue(0, " + watch + ")", x.shareValue(0, watch), traffic[watch] + 1);
            }
        });
    }

    private static void rights(Sentences doc) {
        doc.test("Rights. For each ferry and each watch there are 64 shares", () -> {
            FerryRights x = Rivers.full();
            for (int i = 0; i < 24; i++) {
                due("grant of all", x.grant(i / 4, i % 4, i % 12, 64), 0);
            }
            Checks.refused(STATE, Rivers::owned, "grant of a 65th share", y -> y.grant(0, 0, 1, 1));
            Checks.refused(STATE, Rivers::owned, "grant of a 65th share", y -> y.grant(5, 3, 11, 1));
            Checks.refused(VALUE, Rivers::owned, "grant of 65 shares", y -> y.grant(1, 0, 1, 65));
        });
        doc.test("; each of them is owned by a person, or by the crown", () -> {
            FerryRights x = Rivers.lived();
            due("crownShares(0, 1)", x.crownShares(0, 1), 13);
            x.give(0, 3, 0, 1, 20);
            due("crownShares(0, 1), after give", x.crownShares(0, 1), 13);
            x.grant(0, 1, 5, 12);
            due("crownShares(0, 1), after grant", x.crownShares(0, 1), 1);
            x.buy(1, 3, 0, 1);
            due("crownShares(0, 1), after buy", x.crownShares(0, 1), 1);
            dueShares(x, 0, 1, 21, 30, 0, 0, 0, 12);
            x.die(0);
            due("crownShares(0, 1), after die with heirs", x.crownShares(0, 1), 1);
            x.die(5);
            due("crownShares(0, 1), after die without heirs", x.crownShares(0, 1), 13);
        });
        doc.test(" (all, at first).", () -> {
            FerryRights x = Rivers.full();
            for (int i = 0; i < 24; i++) {
                due("crownShares(" + i / 4 + ", " + i % 4 + ")", x.crownShares(i / 4, i % 4), 64);
                due("owners(" + i / 4 + ", " + i % 4 + ")", x.owners(i / 4, i % 4), 0);
            }
        });
        doc.test(" A share of a watch is worth the toll times the traffic of the watch, and 1 more.", () -> {
            FerryRights x = Rivers.full();
            int[] lowest = {1, 1, 1, 1};
            int[] highest = {41, 81, 61, 21};
            for (int watch = 0; watch < 4; watch++) {
                due("shareValue(0, " + watch + ")", x.shareValue(0, watch), lowest[watch]);
                due("shareValue(5, " + watch + ")", x.shareValue(5, watch), highest[watch]);
            }
        });
        master(doc);
    }

    private static void master(Sentences doc) {
        String words = " The master of a ferry is the person who owns more than half of all its 256 shares, if there is one.";
        doc.test(words, "nobody owns any", () -> {
            due("hasMaster(0)", Rivers.full().hasMaster(0), false);
        });
        doc.test(words, "128 shares, half of all", () -> {
            FerryRights x = Rivers.crowd(1, 2);
            x.grant(0, 0, 1, 64);
            x.grant(0, 3, 1, 64);
            due("hasMaster(0)", x.hasMaster(0), false);
        });
        doc.test(words, "129 shares", () -> {
            FerryRights x = Rivers.crowd(1, 2);
            x.grant(0, 0, 1, 64);
            x.grant(0, 3, 1, 64);
            x.grant(0, 1, 1, 1);
            due("hasMaster(0)", x.hasMaster(0), true);
            due("master(0)", x.master(0), 1);
        });
        doc.test(words, "all 256 shares", () -> {
            FerryRights x = Rivers.crowd(1, 1);
            for (int watch = 0; watch < 4; watch++) {
                x.grant(0, watch, 0, 64);
            }
            due("master(0)", x.master(0), 0);
        });
        doc.test(words, "two with half each", () -> {
            FerryRights x = Rivers.crowd(1, 2);
            for (int watch = 0; watch < 4; watch++) {
                x.grant(0, watch, 0, 32);
                x.grant(0, watch, 1, 32);
            }
            due("hasMaster(0)", x.hasMaster(0), false);
            x.give(0, 1, 0, 2, 1);
            due("master(0)", x.master(0), 1);
            x.give(1, 0, 0, 0, 2);
            due("master(0)", x.master(0), 0);
        });
        doc.test(words, "shares of another ferry do not count", () -> {
            FerryRights x = Rivers.crowd(1, 1);
            x.addFerry(1);
            for (int watch = 0; watch < 4; watch++) {
                x.grant(0, watch, 0, 32);
                x.grant(1, watch, 0, 32);
            }
            due("hasMaster(0)", x.hasMaster(0), false);
            due("hasMaster(1)", x.hasMaster(1), false);
        });
        doc.test(words, "half of what people own is not half of all", () -> {
            FerryRights x = Rivers.crowd(1, 1);
            x.grant(0, 0, 0, 64);
            due("hasMaster(0)", x.hasMaster(0), false);
        });
    }

    private static void people(Sentences doc) {
        doc.test("People. At most 12", () -> {
            due("people()", Rivers.full().people(), 12);
            Checks.refused(STATE, Rivers::full, "addPerson(), the 13th", x -> x.addPerson());
            Checks.refused(STATE, Rivers::full, "addChild(0), the 13th", x -> x.addChild(0));
            Checks.refused(STATE, () -> {
                FerryRights x = Rivers.full();
                x.die(11);
                return x;
            }, "addPerson(), the 13th, one being dead", x -> x.addPerson());
        });
        doc.test(", numbered likewise", () -> {
            FerryRights x = Rivers.empty();
            due("addPerson()", x.addPerson(), 0);
            for (int i = 1; i < 11; i += 2) {
                due("addChild(0)", x.addChild(0), i);
                due("addPerson()", x.addPerson(), i + 1);
            }
            due("addChild(10)", x.addChild(10), 11);
        });
        doc.test("; each has coins (0, at first", () -> {
            FerryRights x = Rivers.full();
            dueCoins(x, 0, 0, 0, 0, 0, 0, 0, 0, 0, 0, 0, 0);
        });
        coins(doc);
        doc.test("), a parent or none", () -> {
            FerryRights x = Rivers.crowd(1, 2);
            x.addChild(0);
            due("hasParent(0)", x.hasParent(0), false);
            due("hasParent(1)", x.hasParent(1), false);
            due("hasParent(2)", x.hasParent(2), true);
            due("parent(2), the number 0", x.parent(2), 0);
        });
        doc.test(", and is alive, or dead.", () -> {
            FerryRights x = Rivers.crowd(1, 2);
            due("isAlive(0)", x.isAlive(0), true);
            x.die(0);
            due("isAlive(0)", x.isAlive(0), false);
            due("isAlive(1)", x.isAlive(1), true);
        });
        doc.test(" Children of a person are told in the order in which they came.", () -> {
            FerryRights x = Rivers.crowd(1, 2);
            for (int i = 0; i < 3; i++) {
                x.addChild(1);
                x.addChild(0);
                x.addPerson();
            }
            dueHeirs(x, 0, 3, 6, 9);
            dueHeirs(x, 1, 2, 5, 8);
        });
    }

    private static void coins(Sentences doc) {
        doc.test(", at most 9999", () -> {
            FerryRights x = Rivers.crowd(1, 1);
            due("pay(0, 9998)", x.pay(0, 9998), 9998);
            due("pay(0, 1)", x.pay(0, 1), 9999);
            due("pay(0, 1)", x.pay(0, 1), 9999);
            dueCoins(x, 9999);
        });
        String words = "; what would be more is lost";
        doc.test(words, "when somebody is paid", () -> {
            FerryRights x = Rivers.crowd(1, 2);
            x.pay(0, 9999);
            due("pay(0, 9999)", x.pay(0, 9999), 9999);
            dueCoins(x, 9999, 0);
            due("crownCoins()", x.crownCoins(), 0);
        });
        doc.test(words, "when fares are shared", () -> {
            FerryRights x = Rivers.crowd(20, 2);
            x.grant(0, 0, 0, 32);
            x.grant(0, 0, 1, 32);
            x.pay(0, 9990);
            due("carry(0, 0, 2)", x.carry(0, 0, 2), 0);
            dueCoins(x, 9999, 20);
            due("crownCoins()", x.crownCoins(), 0);
            x.pay(1, 9959);
            x.carry(0, 0, 2);
            dueCoins(x, 9999, 9999);
        });
        doc.test(words, "when shares are bought", () -> {
            FerryRights x = Rivers.crowd(0, 2);
            x.grant(0, 0, 0, 2);
            x.pay(0, 9998);
            x.pay(1, 9);
            due("buy(1, 0, 0, 0)", x.buy(1, 0, 0, 0), 2);
            dueCoins(x, 9999, 7);
            due("crownCoins()", x.crownCoins(), 0);
        });
        doc.test(words, "when coins are inherited", () -> {
            FerryRights x = Rivers.family(3);
            x.pay(0, 9999);
            x.pay(1, 5000);
            x.pay(2, 7499);
            x.pay(3, 7500);
            x.die(0);
            dueCoins(x, 0, 9999, 9999, 9999);
            due("crownCoins()", x.crownCoins(), 0);
        });
    }

    private static void heirs(Sentences doc) {
        doc.test("Heirs of a person: the living children, in their order", () -> {
            FerryRights x = Rivers.family(4);
            dueHeirs(x, 0, 1, 2, 3, 4);
            x.die(1);
            x.die(3);
            dueHeirs(x, 0, 2, 4);
        });
        doc.test("Heirs of a person: the living children, in their order", "whatever siblings there are", () -> {
            FerryRights x = Rivers.family(3);
            x.addChild(2);
            dueHeirs(x, 2, 4);
            dueHeirs(x, 0, 1, 2, 3);
        });
        doc.test("; if there are none", "all children being dead", () -> {
            FerryRights x = Rivers.family(2);
            x.addChild(1);
            x.addChild(1);
            x.die(3);
            dueHeirs(x, 1, 4);
            x.die(4);
            dueHeirs(x, 1, 2);
        });
        doc.test("; if there are none", "children of a dead child are no heirs", () -> {
            FerryRights x = Rivers.family(2);
            x.addChild(1);
            x.die(1);
            dueHeirs(x, 0, 2);
            x.die(2);
            dueHeirs(x, 0);
        });
        doc.test(", the other living children of the parent", () -> {
            FerryRights x = Rivers.family(4);
            dueHeirs(x, 1, 2, 3, 4);
            dueHeirs(x, 4, 1, 2, 3);
            x.die(2);
            dueHeirs(x, 3, 1, 4);
            dueHeirs(x, 2, 1, 3, 4);
        });
        doc.test(" (alive or dead)", () -> {
            FerryRights x = Rivers.family(3);
            x.die(0);
            dueHeirs(x, 2, 1, 3);
        });
        doc.test(", in their order; ", () -> {
            FerryRights x = Rivers.crowd(1, 2);
            for (int i = 0; i < 4; i++) {
                x.addChild(0);
                x.addChild(1);
            }
            dueHeirs(x, 4, 2, 6, 8);
            dueHeirs(x, 9, 3, 5, 7);
        });
        heirless(doc);
    }

    private static void heirless(Sentences doc) {
        doc.test("without a parent", () -> {
            FerryRights x = Rivers.crowd(1, 3);
            dueHeirs(x, 0);
            dueHeirs(x, 2);
        });
        doc.test("without a parent", "a parent is no heir", () -> {
            FerryRights x = Rivers.family(1);
            dueHeirs(x, 1);
        });
        doc.test(", or if there are none, nobody.", "the only child", () -> {
            FerryRights x = Rivers.family(1);
            x.addPerson();
            dueHeirs(x, 1);
        });
        doc.test(", or if there are none, nobody.", "all siblings being dead", () -> {
            FerryRights x = Rivers.family(3);
            x.die(1);
            x.die(3);
            dueHeirs(x, 2);
        });
    }

    /** What the children of person 0 get of so many coins, and of as many shares as there are, up to 64. */
    private static void parted(int estate, int... want) {
        FerryRights x = Rivers.family(want.length);
        x.pay(0, estate);
        if (estate <= 64) {
            x.grant(0, 2, 0, estate);
        }
        for (int i = 0; i < want.length && estate <= 64; i++) {
            due("inheritance of " + estate + " at place " + i, x.inheritance(0, i + 1, 0, 2), want[i]);
        }
        due("die(0)", x.die(0), want.length);
        for (int i = 0; i < want.length; i++) {
            due("coins of " + estate + " at place " + i, x.coins(i + 1), want[i]);
            due("shares of " + estate + " at place " + i, x.shares(0, 2, i + 1), estate <= 64 ? want[i] : 0);
        }
    }

    private static void estates(Sentences doc) {
        doc.test("An estate of some number is parted among heirs:", "nothing is parted too", () -> {
            FerryRights x = Rivers.family(3);
            due("die(0)", x.die(0), 3);
            dueCoins(x, 0, 0, 0, 0);
            dueShares(x, 0, 0, 0, 0, 0, 0);
        });
        doc.test(" one alone gets all", () -> {
            parted(1, 1);
            parted(2, 2);
            parted(63, 63);
            parted(64, 64);
            parted(9999, 9999);
        });
        doc.test("; of several the first one gets half", () -> {
            parted(2, 1, 1);
            parted(64, 32, 32);
            parted(64, 32, 16, 16);
            parted(9998, 4999, 4999);
        });
        doc.test(", and what is odd as well", () -> {
            parted(1, 1, 0);
            parted(1, 1, 0, 0);
            parted(3, 2, 1);
            parted(63, 32, 31);
            parted(9999, 5000, 4999);
        });
        doc.test("; what is left is parted among the others, each as much", () -> {
            parted(4, 2, 1, 1);
            parted(5, 3, 1, 1);
            parted(60, 30, 10, 10, 10);
            parted(20, 10, 1, 1, 1, 1, 1, 1, 1, 1, 1, 1);
        });
        doc.test(", the first ones of them 1 more, if it does not divide.", () -> {
            parted(2, 1, 1, 0);
            parted(6, 3, 2, 1);
            parted(10, 5, 2, 2, 1);
            parted(18, 9, 1, 1, 1, 1, 1, 1, 1, 1, 1, 0);
            parted(22, 11, 2, 1, 1, 1, 1, 1, 1, 1, 1, 1);
            parted(64, 32, 4, 4, 3, 3, 3, 3, 3, 3, 3, 3);
            parted(9999, 5000, 500, 500, 500, 500, 500, 500, 500, 500, 500, 499);
        });
    }

    private static void dying(Sentences doc) {
        doc.test("Dying. For each ferry and each watch, the shares of this person are an estate", () -> {
            FerryRights x = Rivers.full();
            for (int i = 0; i < 24; i++) {
                x.grant(i / 4, i % 4, 0, 2 * (i % 2) + 1);
            }
            x.die(0);
            for (int i = 0; i < 24; i++) {
                int odd = i % 2;
                dueShares(x, i / 4, i % 4, 0, 1 + odd, odd, 0, 0, 0, 0, 0, 0, 0, 0, 0);
            }
        });
        doc.test("Dying. For each ferry and each watch, the shares of this person are an estate", "that is added", () -> {
            FerryRights x = Rivers.family(2);
            x.grant(0, 0, 0, 5);
            x.grant(0, 0, 1, 7);
            x.grant(0, 0, 2, 11);
            x.die(0);
            dueShares(x, 0, 0, 0, 10, 13);
        });
        doc.test(", and coins are one:", () -> {
            FerryRights x = Rivers.family(2);
            x.pay(0, 5);
            x.pay(1, 7);
            x.pay(2, 11);
            x.die(0);
            dueCoins(x, 0, 10, 13);
        });
        doc.test(" they go to the heirs", () -> {
            FerryRights x = Rivers.lived();
            due("die(1)", x.die(1), 1);
            dueShares(x, 0, 1, 41, 0, 0, 0, 0, 10);
            dueCoins(x, 119, 0, 40, 0, 0, 504);
            due("die(5)", x.die(5), 0);
            due("die(2) of siblings, one being dead", x.die(2), 1);
            dueCoins(x, 119, 0, 0, 40, 0, 0);
        });
        doc.test(", or, if there is nobody, to the crown", () -> {
            FerryRights x = Rivers.crowd(1, 2);
            x.grant(0, 0, 0, 64);
            x.grant(0, 3, 0, 1);
            x.grant(0, 3, 1, 2);
            due("die(0)", x.die(0), 0);
            due("crownShares(0, 0)", x.crownShares(0, 0), 64);
            due("crownShares(0, 3)", x.crownShares(0, 3), 62);
            due("grant of all again", x.grant(0, 0, 1, 64), 0);
        });
        doc.test(" (coins are among those that the crown got).", () -> {
            FerryRights x = Rivers.crowd(1, 2);
            x.carry(0, 0, 3);
            x.pay(0, 9999);
            x.die(0);
            due("crownCoins()", x.crownCoins(), 10002);
            x.die(1);
            due("crownCoins(), without a coin more", x.crownCoins(), 10002);
        });
        doc.test(" This person is dead then, and has nothing.", () -> {
            for (int person = 0; person < 12; person += 11) {
                FerryRights x = Rivers.owned();
                x.die(person);
                due("isAlive(" + person + ")", x.isAlive(person), false);
                due("coins(" + person + ")", x.coins(person), 0);
                due("allShares(" + person + ")", x.allShares(person), 0);
                due("living()", x.living(), 11);
            }
        });
    }

    /** Of ferry 0 (toll 2), at dawn, person 0 sells 3 shares, each worth 5; 1 is to buy them, 2 is an other one. */
    private static FerryRights sale(int buyersCoins, int buyersShares, int othersCoins, int othersShares) {
        FerryRights x = Rivers.crowd(2, 3);
        x.grant(0, 0, 0, 3);
        int[] coins = {0, buyersCoins, othersCoins};
        int[] shares = {0, buyersShares, othersShares};
        for (int person = 1; person < 3; person++) {
            if (coins[person] > 0) {
                x.pay(person, coins[person]);
            }
            if (shares[person] > 0) {
                x.grant(0, 0, person, shares[person]);
            }
        }
        return x;
    }

    private static void dueSale(String what, Supplier<FerryRights> river) {
        FerryRights x = river.get();
        int coins = x.coins(1);
        int shares = x.shares(0, 0, 1);
        due("canBuy " + what, x.canBuy(1, 0, 0, 0), true);
        due("buy " + what, x.buy(1, 0, 0, 0), 15);
        due("the buyer's coins", x.coins(1), coins - 15);
        due("the buyer's shares", x.shares(0, 0, 1), shares + 3);
        due("the seller's shares", x.shares(0, 0, 0), 0);
    }

    private static void dueNoSale(String what, Supplier<FerryRights> river, int buyer, int seller, int watch) {
        due("canBuy " + what, river.get().canBuy(buyer, seller, 0, watch), false);
        Checks.refused(STATE, river, "buy " + what, x -> x.buy(buyer, seller, 0, watch));
    }

    private static void buying(Sentences doc) {
        doc.test("Buying. All shares that a seller has of one watch of a ferry are bought together", () -> {
            FerryRights x = Rivers.owned();
            x.grant(5, 2, 11, 8);
            x.grant(4, 3, 11, 9);
            due("buy(0, 11, 5, 3)", x.buy(0, 11, 5, 3), 1344);
            due("shares(5, 3, 0)", x.shares(5, 3, 0), 64);
            due("shares(5, 3, 11)", x.shares(5, 3, 11), 0);
            due("shares(5, 2, 11), of another watch", x.shares(5, 2, 11), 8);
            due("shares(4, 3, 11), of another ferry", x.shares(4, 3, 11), 9);
        });
        doc.test("; their price is what they are worth, added.", () -> {
            FerryRights x = Rivers.full();
            x.grant(0, 0, 0, 1);
            x.grant(5, 1, 0, 64);
            due("price(0, 0, 0)", x.price(0, 0, 0), 1);
            due("price(0, 5, 1)", x.price(0, 5, 1), 64 * 81);
        });
        doc.test(" A buyer who is alive", () -> {
            dueNoSale("by a dead one", () -> {
                FerryRights x = sale(50, 0, 0, 0);
                x.die(1);
                return x;
            }, 1, 0, 0);
        });
        doc.test(", is not the seller", () -> {
            dueNoSale("from oneself", () -> sale(50, 5, 0, 0), 1, 1, 0);
        });
        doc.test(", and has the price or more in coins can buy them", () -> {
            dueNoSale("without coins", () -> sale(0, 0, 0, 0), 1, 0, 0);
            dueNoSale("with a coin too few", () -> sale(14, 0, 0, 0), 1, 0, 0);
            dueNoSale("with a coin too few, by a co-owner", () -> sale(14, 60, 0, 0), 1, 0, 0);
            dueSale("with the price", () -> sale(15, 0, 0, 0));
            dueSale("with a coin more", () -> sale(16, 0, 0, 0));
        });
        doc.test(", if the seller has some", () -> {
            dueNoSale("of a watch that the seller has none of", () -> sale(50, 0, 0, 0), 1, 0, 1);
            dueNoSale("from a dead one", () -> {
                FerryRights x = sale(50, 0, 0, 0);
                x.die(0);
                return x;
            }, 1, 0, 0);
        });
        firstToBuy(doc);
    }

    private static void firstToBuy(Sentences doc) {
        doc.test(", and if the buyer owns shares of this watch already", () -> {
            dueSale("with a share, an other owner having the price", () -> sale(15, 1, 9999, 60));
            dueNoSale("with shares of another watch alone", () -> {
                FerryRights x = sale(15, 0, 15, 1);
                x.grant(0, 1, 1, 64);
                return x;
            }, 1, 0, 0);
            dueNoSale("with shares of another ferry alone", () -> {
                FerryRights x = sale(15, 0, 15, 1);
                x.addFerry(2);
                x.grant(1, 0, 1, 64);
                return x;
            }, 1, 0, 0);
        });
        doc.test(", or no other owner of it", () -> {
            dueSale("when there is no other owner", () -> sale(15, 0, 0, 0));
            dueSale("when one from outside is richer", () -> sale(15, 0, 9999, 0));
            dueSale("when an owner of another watch is richer", () -> {
                FerryRights x = sale(15, 0, 9999, 0);
                x.grant(0, 1, 2, 64);
                return x;
            });
            dueSale("when the crown got many coins", () -> {
                FerryRights x = sale(15, 0, 0, 0);
                x.carry(0, 23, 200);
                return x;
            });
        });
        doc.test(" (but the seller)", () -> {
            dueSale("when the seller has the price", () -> {
                FerryRights x = sale(15, 0, 0, 0);
                x.pay(0, 9000);
                return x;
            });
        });
        doc.test(" has the price or more.", () -> {
            dueSale("when the other owner has no coins", () -> sale(15, 0, 0, 1));
            dueSale("when the other owner has a coin too few", () -> sale(15, 0, 14, 61));
            dueNoSale("when the other owner has the price", () -> sale(15, 0, 15, 1), 1, 0, 0);
            dueNoSale("when the other owner has a coin more", () -> sale(9999, 0, 16, 1), 1, 0, 0);
        });
    }

    /** Each exception of each method, on a river where something could change. */
    private static void exceptions(Sentences doc) {
        doc.test("A method that throws an exception changes nothing.", () -> {
            Checks.refused(VALUE, Rivers::lived, "addFerry(21)", x -> x.addFerry(21));
            Checks.refused(STATE, Rivers::owned, "addFerry(3)", x -> x.addFerry(3));
            Checks.refused(STATE, Rivers::owned, "addPerson()", x -> x.addPerson());
            Checks.refused(PLACE, Rivers::lived, "addChild(6)", x -> x.addChild(6));
            Checks.refused(STATE, Rivers::lived, "addChild(4)", x -> x.addChild(4));
            Checks.refused(STATE, Rivers::owned, "addChild(0)", x -> x.addChild(0));
            Checks.refused(PLACE, Rivers::lived, "pay(6, 5)", x -> x.pay(6, 5));
            Checks.refused(VALUE, Rivers::lived, "pay(0, 10000)", x -> x.pay(0, 10000));
            Checks.refused(STATE, Rivers::lived, "pay(4, 5)", x -> x.pay(4, 5));
            Checks.refused(PLACE, Rivers::lived, "grant(0, 1, 6, 5)", x -> x.grant(0, 1, 6, 5));
            Checks.refused(VALUE, Rivers::lived, "grant(0, 1, 0, 0)", x -> x.grant(0, 1, 0, 0));
            Checks.refused(STATE, Rivers::lived, "grant(0, 1, 4, 5)", x -> x.grant(0, 1, 4, 5));
            Checks.refused(STATE, Rivers::lived, "grant(0, 1, 0, 14)", x -> x.grant(0, 1, 0, 14));
            Checks.refused(PLACE, Rivers::lived, "give(0, 6, 0, 1, 5)", x -> x.give(0, 6, 0, 1, 5));
            Checks.refused(VALUE, Rivers::lived, "give(0, 0, 0, 1, 5)", x -> x.give(0, 0, 0, 1, 5));
            Checks.refused(STATE, Rivers::lived, "give(0, 4, 0, 1, 5)", x -> x.give(0, 4, 0, 1, 5));
            Checks.refused(STATE, Rivers::lived, "give(0, 2, 0, 1, 42)", x -> x.give(0, 2, 0, 1, 42));
            Checks.refused(PLACE, Rivers::lived, "buy(1, 0, 2, 1)", x -> x.buy(1, 0, 2, 1));
            Checks.refused(STATE, Rivers::lived, "buy(1, 0, 0, 1)", x -> x.buy(1, 0, 0, 1));
            Checks.refused(PLACE, Rivers::ruled, "setToll(2, 2, 7)", x -> x.setToll(2, 2, 7));
            Checks.refused(VALUE, Rivers::ruled, "setToll(1, 2, 21)", x -> x.setToll(1, 2, 21));
            Checks.refused(STATE, Rivers::ruled, "setToll(1, 0, 7)", x -> x.setToll(1, 0, 7));
            Checks.refused(PLACE, Rivers::lived, "carry(0, 24, 9)", x -> x.carry(0, 24, 9));
            Checks.refused(VALUE, Rivers::lived, "carry(0, 7, 201)", x -> x.carry(0, 7, 201));
            Checks.refused(PLACE, Rivers::lived, "die(6)", x -> x.die(6));
            Checks.refused(STATE, Rivers::lived, "die(4)", x -> x.die(4));
        });
        firstNamed(doc);
    }

    private static void firstNamed(Sentences doc) {
        String words = " If several exceptions apply, the one that is named first is thrown.";
        doc.test(words, "of the river", () -> {
            Checks.refused(VALUE, Rivers::owned, "addFerry(21), the 7th", x -> x.addFerry(21));
            Checks.refused(VALUE, Rivers::owned, "addFerry(-1), the 7th", x -> x.addFerry(-1));
            Checks.refused(PLACE, Rivers::owned, "addChild(12), the 13th", x -> x.addChild(12));
            Checks.refused(PLACE, Rivers::owned, "addChild(-1), the 13th", x -> x.addChild(-1));
            Checks.refused(PLACE, Rivers::lived, "pay(6, 0)", x -> x.pay(6, 0));
            Checks.refused(PLACE, Rivers::lived, "pay(-1, 10000)", x -> x.pay(-1, 10000));
            Checks.refused(VALUE, Rivers::lived, "pay(4, 0) to a dead one", x -> x.pay(4, 0));
            Checks.refused(VALUE, Rivers::lived, "pay(4, 10000) to a dead one", x -> x.pay(4, 10000));
        });
        doc.test(words, "of grant", () -> {
            Checks.refused(PLACE, Rivers::lived, "grant(2, 1, 0, 0)", x -> x.grant(2, 1, 0, 0));
            Checks.refused(PLACE, Rivers::lived, "grant(0, 4, 0, 65)", x -> x.grant(0, 4, 0, 65));
            Checks.refused(PLACE, Rivers::lived, "grant(0, 1, 6, 65)", x -> x.grant(0, 1, 6, 65));
            Checks.refused(PLACE, Rivers::lived, "grant(2, 1, 4, 1) to a dead one", x -> x.grant(2, 1, 4, 1));
            Checks.refused(PLACE, Rivers::lived, "grant(0, 4, 4, 1) to a dead one", x -> x.grant(0, 4, 4, 1));
            Checks.refused(PLACE, Rivers::lived, "grant(0, 1, 6, 14) of too many", x -> x.grant(0, 1, 6, 14));
            Checks.refused(VALUE, Rivers::lived, "grant(0, 1, 4, 0) to a dead one", x -> x.grant(0, 1, 4, 0));
            Checks.refused(VALUE, Rivers::lived, "grant(0, 1, 4, 65) to a dead one", x -> x.grant(0, 1, 4, 65));
            Checks.refused(VALUE, Rivers::lived, "grant(0, 1, 0, 65) of too many", x -> x.grant(0, 1, 0, 65));
        });
        doc.test(words, "of give", () -> {
            Checks.refused(PLACE, Rivers::lived, "give(6, 1, 0, 1, 0)", x -> x.give(6, 1, 0, 1, 0));
            Checks.refused(PLACE, Rivers::lived, "give(0, 6, 0, 1, 65)", x -> x.give(0, 6, 0, 1, 65));
            Checks.refused(PLACE, Rivers::lived, "give(6, 6, 0, 1, 1) to oneself", x -> x.give(6, 6, 0, 1, 1));
            Checks.refused(PLACE, Rivers::lived, "give(0, 0, 2, 1, 1) to oneself", x -> x.give(0, 0, 2, 1, 1));
            Checks.refused(PLACE, Rivers::lived, "give(0, 0, 0, 4, 1) to oneself", x -> x.give(0, 0, 0, 4, 1));
            Checks.refused(PLACE, Rivers::lived, "give(0, 1, 2, 1, 0)", x -> x.give(0, 1, 2, 1, 0));
            Checks.refused(PLACE, Rivers::lived, "give(0, 1, 0, 4, 65)", x -> x.give(0, 1, 0, 4, 65));
            Checks.refused(PLACE, Rivers::lived, "give(6, 4, 0, 1, 1) to a dead one", x -> x.give(6, 4, 0, 1, 1));
            Checks.refused(PLACE, Rivers::lived, "give(0, 4, 2, 1, 1) to a dead one", x -> x.give(0, 4, 2, 1, 1));
            Checks.refused(PLACE, Rivers::lived, "give(0, 4, 0, 4, 1) to a dead one", x -> x.give(0, 4, 0, 4, 1));
            Checks.refused(PLACE, Rivers::lived, "give(2, 6, 0, 1, 9) of too many", x -> x.give(2, 6, 0, 1, 9));
            Checks.refused(VALUE, Rivers::lived, "give(0, 4, 0, 1, 0) to a dead one", x -> x.give(0, 4, 0, 1, 0));
            Checks.refused(VALUE, Rivers::lived, "give(0, 4, 0, 1, 65) to a dead one", x -> x.give(0, 4, 0, 1, 65));
            Checks.refused(VALUE, Rivers::lived, "give(4, 4, 0, 1, 1) of a dead one to itself", x -> x.give(4, 4, 0, 1, 1));
            Checks.refused(VALUE, Rivers::lived, "give(2, 2, 0, 1, 9) of too many to oneself", x -> x.give(2, 2, 0, 1, 9));
            Checks.refused(VALUE, Rivers::lived, "give(0, 1, 0, 1, 65) of too many", x -> x.give(0, 1, 0, 1, 65));
        });
        doc.test(words, "of buy", () -> {
            Checks.refused(PLACE, Rivers::lived, "buy(4, 6, 0, 1) by a dead one", x -> x.buy(4, 6, 0, 1));
            Checks.refused(PLACE, Rivers::lived, "buy(4, 0, 2, 1) by a dead one", x -> x.buy(4, 0, 2, 1));
            Checks.refused(PLACE, Rivers::lived, "buy(4, 0, 0, 4) by a dead one", x -> x.buy(4, 0, 0, 4));
            Checks.refused(PLACE, Rivers::lived, "buy(6, 6, 0, 1) from oneself", x -> x.buy(6, 6, 0, 1));
            Checks.refused(PLACE, Rivers::lived, "buy(0, 0, 2, 1) from oneself", x -> x.buy(0, 0, 2, 1));
            Checks.refused(PLACE, Rivers::lived, "buy(0, 0, 0, 4) from oneself", x -> x.buy(0, 0, 0, 4));
            Checks.refused(PLACE, Rivers::lived, "buy(6, 4, 0, 1) where there are none", x -> x.buy(6, 4, 0, 1));
        });
        doc.test(words, "of setToll, carry and fare", () -> {
            Checks.refused(PLACE, Rivers::ruled, "setToll(2, 2, 21)", x -> x.setToll(2, 2, 21));
            Checks.refused(PLACE, Rivers::ruled, "setToll(1, 6, -1)", x -> x.setToll(1, 6, -1));
            Checks.refused(PLACE, Rivers::ruled, "setToll(2, 0, 5) by no master", x -> x.setToll(2, 0, 5));
            Checks.refused(PLACE, Rivers::lived, "setToll(0, -1, 5) without a master", x -> x.setToll(0, -1, 5));
            Checks.refused(VALUE, Rivers::ruled, "setToll(1, 0, 21) by no master", x -> x.setToll(1, 0, 21));
            Checks.refused(VALUE, Rivers::ruled, "setToll(0, 0, -1) without a master", x -> x.setToll(0, 0, -1));
            Checks.refused(PLACE, Rivers::lived, "carry(2, 7, 0)", x -> x.carry(2, 7, 0));
            Checks.refused(PLACE, Rivers::lived, "carry(0, 24, 201)", x -> x.carry(0, 24, 201));
            Checks.refused(PLACE, Rivers::lived, "fare(6, 0, 7, 0)", x -> x.fare(6, 0, 7, 0));
            Checks.refused(PLACE, Rivers::lived, "fare(0, 2, 7, 201)", x -> x.fare(0, 2, 7, 201));
            Checks.refused(PLACE, Rivers::lived, "fare(0, 0, 24, 0)", x -> x.fare(0, 0, 24, 0));
        });
        doc.test(words, "of what is empty", () -> {
            Checks.refused(PLACE, Rivers::lived, "holder(0, 4)", x -> x.holder(0, 4));
            Checks.refused(PLACE, Rivers::lived, "holder(2, 0)", x -> x.holder(2, 0));
            Checks.refused(PLACE, Rivers::lived, "master(2)", x -> x.master(2));
            Checks.refused(PLACE, Rivers::lived, "parent(6)", x -> x.parent(6));
            Checks.refused(PLACE, Rivers::died, "die(6)", x -> x.die(6));
        });
    }

    private static void manyCalls(Sentences doc) {
        doc.under("What it is");
        doc.test("An object is used for at most 512 calls after it has been made", () -> {
            FerryRights x = Rivers.crowd(20, 2);
            x.grant(0, 3, 1, 64);
            for (int call = 4; call < 508; call++) {
                x.carry(0, call % 2 == 0 ? 23 : 0, 200);
            }
            due("carried(0)", x.carried(0), 504 * 200);
            due("earned(1)", x.earned(1), 252 * 4000);
            due("coins(1)", x.coins(1), 9999);
            due("crownCoins(), the 512th call", x.crownCoins(), 252 * 4000);
        });
    }

    public static void main(String[] args) throws IOException {
        Sentences doc = new Sentences();
        manyCalls(doc);
        doc.under("Terms");
        overview(doc);
        ferries(doc);
        watches(doc);
        rights(doc);
        people(doc);
        heirs(doc);
        estates(doc);
        dying(doc);
        buying(doc);
        exceptions(doc);
        doc.needAll("Terms", 1);
        doc.end();
    }
}
