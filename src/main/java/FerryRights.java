/** Rights of ferries on a river: who owns their shares, says their tolls, gets their fares and inherits them. */
public final class FerryRights {
    private static final int MAX_FERRIES = 6;
    private static final int MAX_PEOPLE = 12;
    private static final int WATCHES = 4;
    private static final int HOURS = 24;
    private static final int HOURS_PER_WATCH = 6;
    private static final int SHARES_PER_WATCH = 64;
    private static final int HALF_OF_FERRY = WATCHES * SHARES_PER_WATCH / 2;
    private static final int MAX_TOLL = 20;
    private static final int MAX_COINS = 9999;
    private static final int MAX_PASSENGERS = 200;
    private static final int NOBODY = -1;
    private static final long DIGEST_START = 1861L;
    private static final int[] TRAFFIC = {2, 4, 3, 1};

    private int ferryCount;
    private final int[] tolls;
    private final int[] passengersCarried;
    // What the people do not own is the crown's, so the crown's shares are not held here.
    private final int[] sharesOwned;

    private int personCount;
    private final boolean[] alive;
    private final int[] purses;
    private final int[] fares;
    private final int[] parents;

    private int crownPurse;

    public FerryRights() {
        ferryCount = 0;
        tolls = new int[MAX_FERRIES];
        passengersCarried = new int[MAX_FERRIES];
        sharesOwned = new int[MAX_FERRIES * WATCHES * MAX_PEOPLE];
        personCount = 0;
        alive = new boolean[MAX_PEOPLE];
        purses = new int[MAX_PEOPLE];
        fares = new int[MAX_PEOPLE];
        parents = new int[MAX_PEOPLE];
        crownPurse = 0;
    }

    // ---- the river

    public int addFerry(int toll) throws IllegalArgumentException, IllegalStateException {
        needToll(toll);
        if (ferryCount >= MAX_FERRIES) {
            throw new IllegalStateException("there are 6 ferries");
        }
        int ferry = ferryCount;
        tolls[ferry] = toll;
        ferryCount = ferry + 1;
        return ferry;
    }

    public int addPerson() throws IllegalStateException {
        needRoomForPerson();
        return settle(NOBODY);
    }

    public int addChild(int parent) throws IndexOutOfBoundsException, IllegalStateException {
        needPerson(parent);
        needAlive(parent);
        needRoomForPerson();
        return settle(parent);
    }

    public int pay(int person, int coins)
            throws IndexOutOfBoundsException, IllegalArgumentException, IllegalStateException {
        needPerson(person);
        if (coins < 1 || coins > MAX_COINS) {
            throw new IllegalArgumentException("coins is not 1 to 9999");
        }
        needAlive(person);
        addCoins(person, coins);
        return purses[person];
    }

    // ---- rights

    public int grant(int ferry, int watch, int person, int shares)
            throws IndexOutOfBoundsException, IllegalArgumentException, IllegalStateException {
        needFerry(ferry);
        needWatch(watch);
        needPerson(person);
        needShares(shares);
        needAlive(person);
        if (crownOwns(ferry, watch) < shares) {
            throw new IllegalStateException("the crown has not so many shares");
        }
        addShares(ferry, watch, person, shares);
        return crownOwns(ferry, watch);
    }

    public int give(int from, int to, int ferry, int watch, int shares)
            throws IndexOutOfBoundsException, IllegalArgumentException, IllegalStateException {
        needPerson(from);
        needPerson(to);
        needFerry(ferry);
        needWatch(watch);
        needShares(shares);
        if (from == to) {
            throw new IllegalArgumentException("both people are the same");
        }
        needAlive(to);
        if (owns(ferry, watch, from) < shares) {
            throw new IllegalStateException("the one who gives has not so many shares");
        }
        addShares(ferry, watch, from, -shares);
        addShares(ferry, watch, to, shares);
        return owns(ferry, watch, to);
    }

    public int buy(int buyer, int seller, int ferry, int watch)
            throws IndexOutOfBoundsException, IllegalStateException {
        needSale(buyer, seller, ferry, watch);
        if (!mayBuy(buyer, seller, ferry, watch)) {
            throw new IllegalStateException("this buyer cannot buy them");
        }
        int cost = priceOf(seller, ferry, watch);
        int bought = owns(ferry, watch, seller);
        purses[buyer] -= cost;
        addCoins(seller, cost);
        addShares(ferry, watch, seller, -bought);
        addShares(ferry, watch, buyer, bought);
        return cost;
    }

    public int setToll(int ferry, int person, int toll)
            throws IndexOutOfBoundsException, IllegalArgumentException, IllegalStateException {
        needFerry(ferry);
        needPerson(person);
        needToll(toll);
        if (findMaster(ferry) != person) {
            throw new IllegalStateException("this person is not the master of the ferry");
        }
        int before = tolls[ferry];
        tolls[ferry] = toll;
        return before;
    }

    // ---- days

    public int carry(int ferry, int hour, int passengers)
            throws IndexOutOfBoundsException, IllegalArgumentException {
        needFerry(ferry);
        needHour(hour);
        needPassengers(passengers);
        int watch = hour / HOURS_PER_WATCH;
        int left = tolls[ferry] * passengers;
        for (int person = 0; person < personCount; person++) {
            int part = fareOf(person, ferry, watch, passengers);
            fares[person] += part;
            addCoins(person, part);
            left -= part;
        }
        crownPurse += left;
        passengersCarried[ferry] += passengers;
        return left;
    }

    public int die(int person) throws IndexOutOfBoundsException, IllegalStateException {
        needPerson(person);
        needAlive(person);
        int count = countHeirs(person);
        int place = 0;
        for (int other = 0; other < personCount; other++) {
            if (isHeir(other, person)) {
                hand(person, other, count, place);
                place++;
            }
        }
        if (count == 0) {
            crownPurse += purses[person];
        }
        bury(person);
        return count;
    }

    // ---- ferries

    public int ferries() {
        return ferryCount;
    }

    public int toll(int ferry) throws IndexOutOfBoundsException {
        needFerry(ferry);
        return tolls[ferry];
    }

    public int carried(int ferry) throws IndexOutOfBoundsException {
        needFerry(ferry);
        return passengersCarried[ferry];
    }

    public int shares(int ferry, int watch, int person) throws IndexOutOfBoundsException {
        needFerry(ferry);
        needWatch(watch);
        needPerson(person);
        return owns(ferry, watch, person);
    }

    public int crownShares(int ferry, int watch) throws IndexOutOfBoundsException {
        needFerry(ferry);
        needWatch(watch);
        return crownOwns(ferry, watch);
    }

    public int owners(int ferry, int watch) throws IndexOutOfBoundsException {
        needFerry(ferry);
        needWatch(watch);
        int count = 0;
        for (int person = 0; person < personCount; person++) {
            if (owns(ferry, watch, person) > 0) {
                count++;
            }
        }
        return count;
    }

    public int holder(int ferry, int watch) throws IndexOutOfBoundsException, IllegalStateException {
        needFerry(ferry);
        needWatch(watch);
        int best = NOBODY;
        int most = 0;
        for (int person = 0; person < personCount; person++) {
            int owned = owns(ferry, watch, person);
            if (owned > most) {
                best = person;
                most = owned;
            }
        }
        if (best == NOBODY) {
            throw new IllegalStateException("nobody owns any share of it");
        }
        return best;
    }

    public int master(int ferry) throws IndexOutOfBoundsException, IllegalStateException {
        needFerry(ferry);
        int found = findMaster(ferry);
        if (found == NOBODY) {
            throw new IllegalStateException("this ferry has no master");
        }
        return found;
    }

    public boolean hasMaster(int ferry) throws IndexOutOfBoundsException {
        needFerry(ferry);
        return findMaster(ferry) != NOBODY;
    }

    public int shareValue(int ferry, int watch) throws IndexOutOfBoundsException {
        needFerry(ferry);
        needWatch(watch);
        return worth(ferry, watch);
    }

    public int watchAt(int hour) throws IndexOutOfBoundsException {
        needHour(hour);
        return hour / HOURS_PER_WATCH;
    }

    // ---- people

    public int people() {
        return personCount;
    }

    public int living() {
        int count = 0;
        for (int person = 0; person < personCount; person++) {
            if (alive[person]) {
                count++;
            }
        }
        return count;
    }

    public boolean isAlive(int person) throws IndexOutOfBoundsException {
        needPerson(person);
        return alive[person];
    }

    public int coins(int person) throws IndexOutOfBoundsException {
        needPerson(person);
        return purses[person];
    }

    public int earned(int person) throws IndexOutOfBoundsException {
        needPerson(person);
        return fares[person];
    }

    public int allShares(int person) throws IndexOutOfBoundsException {
        needPerson(person);
        return countAllShares(person);
    }

    public boolean hasParent(int person) throws IndexOutOfBoundsException {
        needPerson(person);
        return parents[person] != NOBODY;
    }

    public int parent(int person) throws IndexOutOfBoundsException, IllegalStateException {
        needPerson(person);
        if (parents[person] == NOBODY) {
            throw new IllegalStateException("this person has no parent");
        }
        return parents[person];
    }

    public int children(int person) throws IndexOutOfBoundsException {
        needPerson(person);
        return countChildren(person);
    }

    public int heirs(int person) throws IndexOutOfBoundsException {
        needPerson(person);
        return countHeirs(person);
    }

    public int heir(int person, int place) throws IndexOutOfBoundsException {
        needPerson(person);
        int found = findHeir(person, place);
        if (found == NOBODY) {
            throw new IndexOutOfBoundsException("no such place among the heirs");
        }
        return found;
    }

    public int crownCoins() {
        return crownPurse;
    }

    // ---- what would be

    public int price(int seller, int ferry, int watch) throws IndexOutOfBoundsException {
        needPerson(seller);
        needFerry(ferry);
        needWatch(watch);
        return priceOf(seller, ferry, watch);
    }

    public boolean canBuy(int buyer, int seller, int ferry, int watch) throws IndexOutOfBoundsException {
        needSale(buyer, seller, ferry, watch);
        return mayBuy(buyer, seller, ferry, watch);
    }

    public int inheritance(int person, int heir, int ferry, int watch) throws IndexOutOfBoundsException {
        needPerson(person);
        needPerson(heir);
        needFerry(ferry);
        needWatch(watch);
        if (!isHeir(heir, person)) {
            return 0;
        }
        return partOf(owns(ferry, watch, person), countHeirs(person), countHeirsBelow(heir, person));
    }

    public int fare(int person, int ferry, int hour, int passengers)
            throws IndexOutOfBoundsException, IllegalArgumentException {
        needPerson(person);
        needFerry(ferry);
        needHour(hour);
        needPassengers(passengers);
        return fareOf(person, ferry, hour / HOURS_PER_WATCH, passengers);
    }

    public int richest() throws IllegalStateException {
        int best = NOBODY;
        int most = -1;
        for (int person = 0; person < personCount; person++) {
            if (alive[person] && purses[person] > most) {
                best = person;
                most = purses[person];
            }
        }
        if (best == NOBODY) {
            throw new IllegalStateException("nobody is alive");
        }
        return best;
    }

    public double meanCoins() {
        int count = 0;
        int sum = 0;
        for (int person = 0; person < personCount; person++) {
            if (alive[person]) {
                count++;
                sum += purses[person];
            }
        }
        if (count == 0) {
            return 0.0;
        }
        return (double) sum / count;
    }

    public long digest() {
        long d = DIGEST_START;
        d = mix(d, ferryCount);
        d = mix(d, personCount);
        d = mix(d, living());
        d = mix(d, crownPurse);
        for (int ferry = 0; ferry < ferryCount; ferry++) {
            d = mixFerry(d, ferry);
        }
        for (int person = 0; person < personCount; person++) {
            d = mixPerson(d, person);
        }
        return d;
    }

    // ---- what a call needs

    private void needFerry(int ferry) {
        if (ferry < 0 || ferry >= ferryCount) {
            throw new IndexOutOfBoundsException("no such ferry");
        }
    }

    private static void needWatch(int watch) {
        if (watch < 0 || watch >= WATCHES) {
            throw new IndexOutOfBoundsException("no such watch");
        }
    }

    private static void needHour(int hour) {
        if (hour < 0 || hour >= HOURS) {
            throw new IndexOutOfBoundsException("hour is not 0 to 23");
        }
    }

    private void needPerson(int person) {
        if (person < 0 || person >= personCount) {
            throw new IndexOutOfBoundsException("no such person");
        }
    }

    private void needSale(int buyer, int seller, int ferry, int watch) {
        needPerson(buyer);
        needPerson(seller);
        needFerry(ferry);
        needWatch(watch);
    }

    private static void needToll(int toll) {
        if (toll < 0 || toll > MAX_TOLL) {
            throw new IllegalArgumentException("toll is not 0 to 20");
        }
    }

    private static void needShares(int shares) {
        if (shares < 1 || shares > SHARES_PER_WATCH) {
            throw new IllegalArgumentException("shares is not 1 to 64");
        }
    }

    private static void needPassengers(int passengers) {
        if (passengers < 1 || passengers > MAX_PASSENGERS) {
            throw new IllegalArgumentException("passengers is not 1 to 200");
        }
    }

    private void needAlive(int person) {
        if (!alive[person]) {
            throw new IllegalStateException("this person is dead");
        }
    }

    private void needRoomForPerson() {
        if (personCount >= MAX_PEOPLE) {
            throw new IllegalStateException("there are 12 people");
        }
    }

    // ---- people and their coins

    private int settle(int parent) {
        int person = personCount;
        alive[person] = true;
        parents[person] = parent;
        personCount = person + 1;
        return person;
    }

    private void addCoins(int person, int coins) {
        purses[person] = Math.min(MAX_COINS, purses[person] + coins);
    }

    private int countChildren(int person) {
        int count = 0;
        for (int other = 0; other < personCount; other++) {
            if (parents[other] == person) {
                count++;
            }
        }
        return count;
    }

    // ---- shares

    private static int slot(int ferry, int watch, int person) {
        return (ferry * WATCHES + watch) * MAX_PEOPLE + person;
    }

    private int owns(int ferry, int watch, int person) {
        return sharesOwned[slot(ferry, watch, person)];
    }

    private void addShares(int ferry, int watch, int person, int change) {
        sharesOwned[slot(ferry, watch, person)] += change;
    }

    private int crownOwns(int ferry, int watch) {
        int left = SHARES_PER_WATCH;
        for (int person = 0; person < personCount; person++) {
            left -= owns(ferry, watch, person);
        }
        return left;
    }

    private int countSharesOfFerry(int ferry, int person) {
        int sum = 0;
        for (int watch = 0; watch < WATCHES; watch++) {
            sum += owns(ferry, watch, person);
        }
        return sum;
    }

    private int countAllShares(int person) {
        int sum = 0;
        for (int ferry = 0; ferry < ferryCount; ferry++) {
            sum += countSharesOfFerry(ferry, person);
        }
        return sum;
    }

    private int findMaster(int ferry) {
        for (int person = 0; person < personCount; person++) {
            if (countSharesOfFerry(ferry, person) > HALF_OF_FERRY) {
                return person;
            }
        }
        return NOBODY;
    }

    private int worth(int ferry, int watch) {
        return tolls[ferry] * TRAFFIC[watch] + 1;
    }

    private int priceOf(int seller, int ferry, int watch) {
        return owns(ferry, watch, seller) * worth(ferry, watch);
    }

    private boolean mayBuy(int buyer, int seller, int ferry, int watch) {
        int cost = priceOf(seller, ferry, watch);
        if (!alive[buyer] || buyer == seller || purses[buyer] < cost) {
            return false;
        }
        if (owns(ferry, watch, seller) == 0) {
            return false;
        }
        return owns(ferry, watch, buyer) > 0 || !otherOwnerHas(cost, seller, ferry, watch);
    }

    private boolean otherOwnerHas(int cost, int seller, int ferry, int watch) {
        for (int person = 0; person < personCount; person++) {
            if (person != seller && owns(ferry, watch, person) > 0 && purses[person] >= cost) {
                return true;
            }
        }
        return false;
    }

    private int fareOf(int person, int ferry, int watch, int passengers) {
        return tolls[ferry] * passengers * owns(ferry, watch, person) / SHARES_PER_WATCH;
    }

    // ---- heirs

    private boolean hasLivingChild(int person) {
        for (int other = 0; other < personCount; other++) {
            if (alive[other] && parents[other] == person) {
                return true;
            }
        }
        return false;
    }

    private boolean isHeir(int other, int person) {
        if (!alive[other] || other == person) {
            return false;
        }
        if (hasLivingChild(person)) {
            return parents[other] == person;
        }
        return parents[person] != NOBODY && parents[other] == parents[person];
    }

    private int countHeirs(int person) {
        return countHeirsBelow(personCount, person);
    }

    // Children come in the order of their numbers, so an heir's place is how many heirs have smaller ones.
    private int countHeirsBelow(int limit, int person) {
        int count = 0;
        for (int other = 0; other < limit; other++) {
            if (isHeir(other, person)) {
                count++;
            }
        }
        return count;
    }

    private int findHeir(int person, int place) {
        int count = 0;
        for (int other = 0; other < personCount; other++) {
            if (isHeir(other, person)) {
                if (count == place) {
                    return other;
                }
                count++;
            }
        }
        return NOBODY;
    }

    private static int partOf(int estate, int count, int place) {
        if (count <= 1) {
            return estate;
        }
        int rest = estate / 2;
        if (place == 0) {
            return estate - rest;
        }
        int others = count - 1;
        int part = rest / others;
        return place - 1 < rest % others ? part + 1 : part;
    }

    private void hand(int person, int heir, int count, int place) {
        for (int ferry = 0; ferry < ferryCount; ferry++) {
            for (int watch = 0; watch < WATCHES; watch++) {
                addShares(ferry, watch, heir, partOf(owns(ferry, watch, person), count, place));
            }
        }
        addCoins(heir, partOf(purses[person], count, place));
    }

    private void bury(int person) {
        for (int ferry = 0; ferry < ferryCount; ferry++) {
            for (int watch = 0; watch < WATCHES; watch++) {
                sharesOwned[slot(ferry, watch, person)] = 0;
            }
        }
        purses[person] = 0;
        alive[person] = false;
    }

    // ---- digest

    private static long mix(long d, long x) {
        return d * 31L + x;
    }

    private long mixFerry(long d, int ferry) {
        long mixed = mix(d, tolls[ferry]);
        mixed = mix(mixed, passengersCarried[ferry]);
        for (int watch = 0; watch < WATCHES; watch++) {
            for (int person = 0; person < personCount; person++) {
                mixed = mix(mixed, owns(ferry, watch, person));
            }
        }
        return mixed;
    }

    private long mixPerson(long d, int person) {
        long mixed = mix(d, alive[person] ? 1L : 0L);
        mixed = mix(mixed, purses[person]);
        mixed = mix(mixed, fares[person]);
        mixed = mix(mixed, countAllShares(person));
        mixed = mix(mixed, countChildren(person));
        return mix(mixed, countHeirs(person));
    }
}
