import java.util.ArrayList;
import java.util.List;

/** Long runs of calls, the same ones every time, whose answers are compared with those of a plain model. */
public final class FerryRightsAgainstModel {
    private static final int RUNS = 3000;
    // The document promises nothing about an object after its 512th call.
    private static final int CALLS = 512;
    private static final int KINDS = 40;

    private static final String PLACE = "IndexOutOfBoundsException";
    private static final String VALUE = "IllegalArgumentException";
    private static final String STATE = "IllegalStateException";

    /** A refusal by the model, told apart from any exception by accident. */
    private static final class Refusal extends RuntimeException {
        private static final long serialVersionUID = 1L;

        Refusal(String name) {
            super(name, null, false, false);
        }
    }

    private static void refuseIf(boolean so, String name) {
        if (so) {
            throw new Refusal(name);
        }
    }

    private static final class Person {
        final int number;
        final Person parent;
        final List<Person> children = new ArrayList<>();
        boolean alive = true;
        int coins;
        int earned;

        Person(int number, Person parent) {
            this.number = number;
            this.parent = parent;
        }

        void get(int more) {
            for (int i = 0; i < more && coins < 9999; i++) {
                coins++;
            }
        }

        List<Person> heirs() {
            List<Person> found = new ArrayList<>();
            for (Person child : children) {
                if (child.alive) {
                    found.add(child);
                }
            }
            if (found.isEmpty() && parent != null) {
                for (Person sibling : parent.children) {
                    if (sibling.alive && sibling != this) {
                        found.add(sibling);
                    }
                }
            }
            return found;
        }
    }

    private static final class Ferry {
        int toll;
        int carried;
        /** Who owns each single share; null is the crown. */
        final Person[][] owner = new Person[4][64];
    }

    /** The document, told share by share and coin by coin. */
    private static final class Model {
        final List<Ferry> ferries = new ArrayList<>();
        final List<Person> people = new ArrayList<>();
        int crown;

        Ferry ferry(int ferry) {
            refuseIf(ferry < 0 || ferry >= ferries.size(), PLACE);
            return ferries.get(ferry);
        }

        Person person(int person) {
            refuseIf(person < 0 || person >= people.size(), PLACE);
            return people.get(person);
        }

        Person[] watch(int ferry, int watch) {
            Ferry found = ferry(ferry);
            refuseIf(watch < 0 || watch > 3, PLACE);
            return found.owner[watch];
        }

        Person[] watchOfHour(int ferry, int hour) {
            Ferry found = ferry(ferry);
            return found.owner[watchAt(hour)];
        }

        int watchAt(int hour) {
            refuseIf(hour < 0 || hour > 23, PLACE);
            if (hour <= 5) {
                return 0;
            }
            if (hour <= 11) {
                return 1;
            }
            return hour <= 17 ? 2 : 3;
        }

        static int count(Person[] owner, Person person) {
            int count = 0;
            for (Person one : owner) {
                count += one == person ? 1 : 0;
            }
            return count;
        }

        static void move(Person[] owner, Person from, Person to, int shares) {
            int left = shares;
            for (int i = 0; i < owner.length && left > 0; i++) {
                if (owner[i] == from) {
                    owner[i] = to;
                    left--;
                }
            }
        }

        static int[] part(int estate, int heirs) {
            int[] parts = new int[heirs];
            if (heirs == 1) {
                parts[0] = estate;
            } else if (heirs > 1) {
                int rest = estate / 2;
                parts[0] = estate - rest;
                for (int next = 1; rest > 0; rest--) {
                    parts[next]++;
                    next = next == heirs - 1 ? 1 : next + 1;
                }
            }
            return parts;
        }

        int value(int ferry, int watch) {
            int[] traffic = {2, 4, 3, 1};
            return ferries.get(ferry).toll * traffic[watch] + 1;
        }

        Person master(int ferry) {
            for (Person person : people) {
                int sum = 0;
                for (Person[] owner : ferries.get(ferry).owner) {
                    sum += count(owner, person);
                }
                if (sum >= 129) {
                    return person;
                }
            }
            return null;
        }

        boolean canBuy(int buyer, int seller, int ferry, int watch) {
            Person b = person(buyer);
            Person s = person(seller);
            Person[] owner = watch(ferry, watch);
            int price = count(owner, s) * value(ferry, watch);
            if (!b.alive || b == s || b.coins < price || count(owner, s) == 0) {
                return false;
            }
            boolean otherHasPrice = false;
            for (Person one : owner) {
                if (one == b) {
                    return true;
                }
                otherHasPrice |= one != null && one != s && one.coins >= price;
            }
            return !otherHasPrice;
        }

        int fare(Person[] owner, int ferry, Person person, int passengers) {
            return ferries.get(ferry).toll * passengers * count(owner, person) / 64;
        }

        double addPerson(Person parent) {
            refuseIf(people.size() == 12, STATE);
            Person made = new Person(people.size(), parent);
            people.add(made);
            if (parent != null) {
                parent.children.add(made);
            }
            return made.number;
        }

        double buy(int buyer, int seller, int ferry, int watch) {
            refuseIf(!canBuy(buyer, seller, ferry, watch), STATE);
            Person[] owner = watch(ferry, watch);
            int price = count(owner, person(seller)) * value(ferry, watch);
            person(buyer).coins -= price;
            person(seller).get(price);
            move(owner, person(seller), person(buyer), 64);
            return price;
        }

        double carry(int ferry, int hour, int passengers) {
            Person[] owner = watchOfHour(ferry, hour);
            refuseIf(passengers < 1 || passengers > 200, VALUE);
            int left = ferry(ferry).toll * passengers;
            for (Person person : people) {
                int part = fare(owner, ferry, person, passengers);
                person.earned += part;
                person.get(part);
                left -= part;
            }
            crown += left;
            ferry(ferry).carried += passengers;
            return left;
        }

        double die(int number) {
            Person person = person(number);
            refuseIf(!person.alive, STATE);
            List<Person> heirs = person.heirs();
            for (Ferry ferry : ferries) {
                for (Person[] owner : ferry.owner) {
                    int[] parts = part(count(owner, person), heirs.size());
                    for (int i = 0; i < parts.length; i++) {
                        move(owner, person, heirs.get(i), parts[i]);
                    }
                    move(owner, person, null, 64);
                }
            }
            int[] parts = part(person.coins, heirs.size());
            for (int i = 0; i < parts.length; i++) {
                heirs.get(i).get(parts[i]);
            }
            crown += heirs.isEmpty() ? person.coins : 0;
            person.coins = 0;
            person.alive = false;
            return heirs.size();
        }

        int allShares(Person person) {
            int sum = 0;
            for (Ferry ferry : ferries) {
                for (Person[] owner : ferry.owner) {
                    sum += count(owner, person);
                }
            }
            return sum;
        }

        List<Person> living() {
            List<Person> found = new ArrayList<>();
            for (Person person : people) {
                if (person.alive) {
                    found.add(person);
                }
            }
            return found;
        }

        long digest() {
            List<Integer> numbers = new ArrayList<>(
                    List.of(ferries.size(), people.size(), living().size(), crown));
            for (Ferry ferry : ferries) {
                numbers.add(ferry.toll);
                numbers.add(ferry.carried);
                for (Person[] owner : ferry.owner) {
                    for (Person person : people) {
                        numbers.add(count(owner, person));
                    }
                }
            }
            for (Person person : people) {
                numbers.addAll(List.of(person.alive ? 1 : 0, person.coins, person.earned, allShares(person),
                        person.children.size(), person.heirs().size()));
            }
            long d = 1861;
            for (int number : numbers) {
                d = d * 31 + number;
            }
            return d;
        }
    }

    /** A call of some kind; its arguments are those of the face, in their order. */
    private static double ask(Model m, int kind, int a, int b, int c, int d, int e) {
        return kind < 10 ? change(m, kind, a, b, c, d, e)
                : kind < 21 ? askFerries(m, kind, a, b, c)
                : kind < 33 ? askPeople(m, kind, a, b) : askWhatWouldBe(m, kind, a, b, c, d);
    }

    private static double change(Model m, int kind, int a, int b, int c, int d, int e) {
        switch (kind) {
            case 0: {
                refuseIf(a < 0 || a > 20, VALUE);
                refuseIf(m.ferries.size() == 6, STATE);
                Ferry ferry = new Ferry();
                ferry.toll = a;
                m.ferries.add(ferry);
                return m.ferries.size() - 1;
            }
            case 1: return m.addPerson(null);
            case 2: {
                refuseIf(!m.person(a).alive, STATE);
                return m.addPerson(m.person(a));
            }
            case 3: {
                Person person = m.person(a);
                refuseIf(b < 1 || b > 9999, VALUE);
                refuseIf(!person.alive, STATE);
                person.get(b);
                return person.coins;
            }
            case 4: {
                Person[] owner = m.watch(a, b);
                Person person = m.person(c);
                refuseIf(d < 1 || d > 64, VALUE);
                refuseIf(!person.alive || Model.count(owner, null) < d, STATE);
                Model.move(owner, null, person, d);
                return Model.count(owner, null);
            }
            case 5: {
                Person from = m.person(a);
                Person to = m.person(b);
                Person[] owner = m.watch(c, d);
                refuseIf(e < 1 || e > 64 || from == to, VALUE);
                refuseIf(!to.alive || Model.count(owner, from) < e, STATE);
                Model.move(owner, from, to, e);
                return Model.count(owner, to);
            }
            case 6: return m.buy(a, b, c, d);
            case 7: {
                Ferry ferry = m.ferry(a);
                Person person = m.person(b);
                refuseIf(c < 0 || c > 20, VALUE);
                refuseIf(m.master(a) != person, STATE);
                int before = ferry.toll;
                ferry.toll = c;
                return before;
            }
            case 8: return m.carry(a, b, c);
            default: return m.die(a);
        }
    }

    private static double askFerries(Model m, int kind, int a, int b, int c) {
        switch (kind) {
            case 10: return m.ferries.size();
            case 11: return m.ferry(a).toll;
            case 12: return m.ferry(a).carried;
            case 13: {
                Person[] owner = m.watch(a, b);
                return Model.count(owner, m.person(c));
            }
            case 14: return Model.count(m.watch(a, b), null);
            case 15:
            case 16: {
                Person[] owner = m.watch(a, b);
                int owners = 0;
                Person best = null;
                for (Person person : m.people) {
                    int count = Model.count(owner, person);
                    owners += count > 0 ? 1 : 0;
                    best = count > 0 && (best == null || count > Model.count(owner, best)) ? person : best;
                }
                refuseIf(kind == 16 && best == null, STATE);
                return kind == 15 || best == null ? owners : best.number;
            }
            case 17: {
                m.ferry(a);
                Person master = m.master(a);
                refuseIf(master == null, STATE);
                return master == null ? -1 : master.number;
            }
            case 18: {
                m.ferry(a);
                return m.master(a) != null ? 1 : 0;
            }
            case 19: {
                m.watch(a, b);
                return m.value(a, b);
            }
            default: return m.watchAt(a);
        }
    }

    private static double askPeople(Model m, int kind, int a, int b) {
        switch (kind) {
            case 21: return m.people.size();
            case 22: return m.living().size();
            case 23: return m.person(a).alive ? 1 : 0;
            case 24: return m.person(a).coins;
            case 25: return m.person(a).earned;
            case 26: return m.allShares(m.person(a));
            case 27: return m.person(a).parent != null ? 1 : 0;
            case 28: {
                Person parent = m.person(a).parent;
                refuseIf(parent == null, STATE);
                return parent == null ? -1 : parent.number;
            }
            case 29: return m.person(a).children.size();
            case 30: return m.person(a).heirs().size();
            case 31: {
                List<Person> heirs = m.person(a).heirs();
                refuseIf(b < 0 || b >= heirs.size(), PLACE);
                return heirs.get(b).number;
            }
            default: return m.crown;
        }
    }

    private static double askWhatWouldBe(Model m, int kind, int a, int b, int c, int d) {
        switch (kind) {
            case 33: {
                Person seller = m.person(a);
                return Model.count(m.watch(b, c), seller) * m.value(b, c);
            }
            case 34: return m.canBuy(a, b, c, d) ? 1 : 0;
            case 35: {
                List<Person> heirs = m.person(a).heirs();
                Person heir = m.person(b);
                int[] parts = Model.part(Model.count(m.watch(c, d), m.person(a)), heirs.size());
                return heirs.contains(heir) ? parts[heirs.indexOf(heir)] : 0;
            }
            case 36: {
                Person person = m.person(a);
                Person[] owner = m.watchOfHour(b, c);
                refuseIf(d < 1 || d > 200, VALUE);
                return m.fare(owner, b, person, d);
            }
            case 37: {
                Person best = null;
                for (Person person : m.living()) {
                    best = best == null || person.coins > best.coins ? person : best;
                }
                refuseIf(best == null, STATE);
                return best == null ? -1 : best.number;
            }
            case 38: {
                double sum = 0;
                for (Person person : m.living()) {
                    sum += person.coins;
                }
                return m.living().isEmpty() ? 0 : sum / m.living().size();
            }
            default: return fold(m.digest());
        }
    }

    /** A double does not hold each long: its halves are told apart by their sum with a factor. */
    private static double fold(long d) {
        return (double) (int) (d >>> 32) * 3 + (int) d;
    }

    private static double ask(FerryRights x, int kind, int a, int b, int c, int d, int e) {
        switch (kind) {
            case 0: return x.addFerry(a);
            case 1: return x.addPerson();
            case 2: return x.addChild(a);
            case 3: return x.pay(a, b);
            case 4: return x.grant(a, b, c, d);
            case 5: return x.give(a, b, c, d, e);
            case 6: return x.buy(a, b, c, d);
            case 7: return x.setToll(a, b, c);
            case 8: return x.carry(a, b, c);
            case 9: return x.die(a);
            case 10: return x.ferries();
            case 11: return x.toll(a);
            case 12: return x.carried(a);
            case 13: return x.shares(a, b, c);
            case 14: return x.crownShares(a, b);
            case 15: return x.owners(a, b);
            case 16: return x.holder(a, b);
            case 17: return x.master(a);
            case 18: return x.hasMaster(a) ? 1 : 0;
            case 19: return x.shareValue(a, b);
            case 20: return x.watchAt(a);
            case 21: return x.people();
            case 22: return x.living();
            case 23: return x.isAlive(a) ? 1 : 0;
            case 24: return x.coins(a);
            case 25: return x.earned(a);
            case 26: return x.allShares(a);
            case 27: return x.hasParent(a) ? 1 : 0;
            case 28: return x.parent(a);
            case 29: return x.children(a);
            case 30: return x.heirs(a);
            case 31: return x.heir(a, b);
            case 32: return x.crownCoins();
            case 33: return x.price(a, b, c);
            case 34: return x.canBuy(a, b, c, d) ? 1 : 0;
            case 35: return x.inheritance(a, b, c, d);
            case 36: return x.fare(a, b, c, d);
            case 37: return x.richest();
            case 38: return x.meanCoins();
            default: return fold(x.digest());
        }
    }

    /** For each kind, what each argument is: Ferry, Watch, Person, Toll, Coins, Shares, Hour, passeNgers, heir's pLace. */
    private static final String[] ARGUMENTS = {
        "T", "", "P", "PC", "FWPS", "PPFWS", "PPFW", "FPT", "FHN", "P",
        "", "F", "F", "FWP", "FW", "FW", "FW", "F", "F", "FW", "H",
        "", "", "P", "P", "P", "P", "P", "P", "P", "P", "PL", "",
        "PFW", "PPFW", "PPFW", "PFHN", "", "", "",
    };
    private static final int[] EDGES = {Integer.MIN_VALUE, -1, 21, 24, 64, 65, 200, 201, 9999, 10000, Integer.MAX_VALUE};

    private static long seed = 1861;
    private static int rightful = 0;
    private static int refusals = 0;

    private static int below(int bound) {
        seed = seed * 6364136223846793005L + 1442695040888963407L;
        return (int) ((seed >>> 33) % bound);
    }

    private static int choose(char what, Model m) {
        if (below(40) == 0) {
            return EDGES[below(EDGES.length)];
        }
        switch (what) {
            case 'F': return below(m.ferries.size() + (below(10) == 0 ? 1 : 0) + (m.ferries.isEmpty() ? 1 : 0));
            case 'P': return below(m.people.size() + (below(10) == 0 ? 1 : 0) + (m.people.isEmpty() ? 1 : 0));
            case 'W': return below(10) == 0 ? below(6) - 1 : below(4);
            case 'T': return below(10) == 0 ? below(23) - 1 : below(21);
            case 'C': return below(4) == 0 ? 9999 - below(50) : 1 + below(700);
            case 'S': return below(5) == 0 ? below(66) : 1 + below(20);
            case 'H': return below(10) == 0 ? below(26) - 1 : below(24);
            case 'N': return below(10) == 0 ? below(203) - 1 : 1 + below(200);
            default: return below(5) - 1;
        }
    }

    private static int chooseKind(int call, int style) {
        if (call < 12) {
            int[] first = {0, 1, 2, 0, 2, 1, 2, 2, 4, 4, 3, 3};
            return first[call];
        }
        int pick = below(100);
        if (pick < 45) {
            int[] often = {0, 1, 2, 2, 3, 3, 4, 4, 4, 5, 5, 6, 6, 6, 7, 8, 8};
            return often[below(often.length)];
        }
        if (pick < 45 + style) {
            return 9;
        }
        return pick < 65 ? 39 : 10 + below(30);
    }

    private static String answer(FerryRights x, int kind, int[] v) {
        try {
            return Double.toString(ask(x, kind, v[0], v[1], v[2], v[3], v[4]));
        } catch (RuntimeException e) {
            return e.getClass().getSimpleName();
        }
    }

    private static String answer(Model m, int kind, int[] v) {
        try {
            rightful++;
            return Double.toString(ask(m, kind, v[0], v[1], v[2], v[3], v[4]));
        } catch (Refusal e) {
            rightful--;
            refusals++;
            return e.getMessage();
        }
    }

    private static boolean sameRun(int run) {
        FerryRights x = new FerryRights();
        Model m = new Model();
        int style = run % 3 == 0 ? 8 : 2;
        for (int call = 0; call < CALLS; call++) {
            int kind = call == CALLS - 1 ? KINDS - 1 : chooseKind(call, style);
            int[] v = new int[5];
            for (int i = 0; i < ARGUMENTS[kind].length(); i++) {
                v[i] = choose(ARGUMENTS[kind].charAt(i), m);
            }
            String got = answer(x, kind, v);
            String want = answer(m, kind, v);
            if (!got.equals(want)) {
                System.out.println("run " + run + ", call " + call + ": kind " + kind + " of " + java.util.Arrays.toString(v)
                        + " answered " + got + ", due is " + want);
                return false;
            }
        }
        return true;
    }

    public static void main(String[] args) {
        int wrong = 0;
        for (int run = 0; run < RUNS && wrong < 10; run++) {
            wrong += sameRun(run) ? 0 : 1;
        }
        System.out.println(wrong + " runs are not as due; " + rightful + " answers and " + refusals + " refusals compared");
        if (wrong != 0) {
            System.exit(1);
        }
    }
}
