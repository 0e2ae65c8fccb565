/** Rivers that tests begin with; each call makes a new one. */
final class Rivers {
    private Rivers() {
    }

    static FerryRights empty() {
        return new FerryRights();
    }

    /** Ferry 0 of this toll, and so many people without parents. */
    static FerryRights crowd(int toll, int people) {
        FerryRights x = new FerryRights();
        x.addFerry(toll);
        for (int i = 0; i < people; i++) {
            x.addPerson();
        }
        return x;
    }

    /** Ferry 0 of toll 1, person 0, and so many children of person 0. */
    static FerryRights family(int children) {
        FerryRights x = crowd(1, 1);
        for (int i = 0; i < children; i++) {
            x.addChild(0);
        }
        return x;
    }

    /**
     * Ferries 0 (toll 3) and 1 (toll 20); person 0, its children 1, 2 and 3, then 4, who is dead, and 5, a child of 1.
     * Of ferry 0 at day 0 has 41 shares, 1 has 10 and the crown 13; of ferry 1 at night 0 has 10 and the crown 54.
     * The coins are 119, 504, 40, 0, 0 and 0, the crown got 16, and ferry 0 carried 10 passengers.
     */
    static FerryRights lived() {
        FerryRights x = new FerryRights();
        x.addFerry(3);
        x.addFerry(20);
        x.addPerson();
        x.addChild(0);
        x.addChild(0);
        x.addChild(0);
        x.addPerson();
        x.addChild(1);
        x.grant(0, 1, 0, 41);
        x.grant(0, 1, 1, 10);
        x.grant(1, 3, 0, 10);
        x.grant(1, 0, 4, 7);
        x.pay(0, 100);
        x.pay(1, 500);
        x.pay(2, 40);
        x.pay(4, 9);
        x.carry(0, 7, 10);
        x.die(4);
        return x;
    }

    /** 6 ferries, of the tolls 0, 4, 8, 12, 16 and 20, and 12 people: 0 and its 11 children. */
    static FerryRights full() {
        FerryRights x = new FerryRights();
        for (int i = 0; i < 6; i++) {
            x.addFerry(4 * i);
        }
        x.addPerson();
        for (int i = 1; i < 12; i++) {
            x.addChild(0);
        }
        return x;
    }

    /** A full river whose ferry 5 has at night 64 shares of person 11, and ferry 0 at dawn 64 of person 0. */
    static FerryRights owned() {
        FerryRights x = full();
        x.grant(0, 0, 0, 64);
        x.grant(5, 3, 11, 64);
        x.pay(0, 9999);
        x.pay(11, 9999);
        return x;
    }

    /** Of ferry 1 (toll 20) person 2 has 129 shares and is the master; of ferry 0 (toll 3) person 2 has 128. */
    static FerryRights ruled() {
        FerryRights x = lived();
        x.grant(1, 0, 2, 32);
        x.grant(1, 1, 2, 32);
        x.grant(1, 2, 2, 32);
        x.grant(1, 3, 2, 33);
        x.grant(0, 0, 2, 64);
        x.grant(0, 2, 2, 64);
        return x;
    }

    /** Everybody is dead. */
    static FerryRights died() {
        FerryRights x = lived();
        for (int person = 0; person < 6; person++) {
            if (person != 4) {
                x.die(person);
            }
        }
        return x;
    }
}
