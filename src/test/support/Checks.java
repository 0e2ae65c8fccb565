import java.util.function.BiFunction;
import java.util.function.Function;
import java.util.function.Supplier;

/** What the tests ask of an answer, or of a call that is to be refused; faults are told and counted. */
final class Checks {
    static final Class<?> PLACE = IndexOutOfBoundsException.class;
    static final Class<?> VALUE = IllegalArgumentException.class;
    static final Class<?> STATE = IllegalStateException.class;

    private static String label = "";
    private static int faults = 0;

    private Checks() {
    }

    static void label(String text) {
        label = text;
    }

    static int faults() {
        return faults;
    }

    static void fail(String text) {
        faults++;
        System.out.println(label + ": " + text);
    }

    static void due(String call, long got, long want) {
        if (got != want) {
            fail(call + " answered " + got + ", due is " + want);
        }
    }

    static void due(String call, double got, double want) {
        if (got != want) {
            fail(call + " answered " + got + ", due is " + want);
        }
    }

    static void due(String call, boolean got, boolean want) {
        if (got != want) {
            fail(call + " answered " + got + ", due is " + want);
        }
    }

    static void dueText(String call, String got, String want) {
        if (!got.equals(want)) {
            fail(call + " answered\n  " + got + ", due is\n  " + want);
        }
    }

    /**
     * The call throws exactly this exception and changes nothing: a twin river that did not have the call answers
     * everything alike, and goes on alike.
     */
    static void refused(Class<?> want, Supplier<FerryRights> river, String call, Function<FerryRights, Object> made) {
        FerryRights x = river.get();
        String got = answer(x, made);
        if (!got.equals(want.getName())) {
            fail(call + " answered " + got + ", due is " + want.getName());
        }
        FerryRights twin = river.get();
        dueText("all that can be asked after " + call, tellAll(x), tellAll(twin));
        dueText("what goes on after " + call, goOn(x), goOn(twin));
    }

    /** Refused for each of these values, which stand for # in the call. */
    static void refusedEach(Class<?> want, Supplier<FerryRights> river, String call, int[] values,
            BiFunction<FerryRights, Integer, Object> made) {
        for (int value : values) {
            refused(want, river, call.replace("#", Integer.toString(value)), x -> made.apply(x, value));
        }
    }

    /** Refused for the numbers around 0 to size - 1. */
    static void refusedOutside(int size, Supplier<FerryRights> river, String call,
            BiFunction<FerryRights, Integer, Object> made) {
        refusedEach(PLACE, river, call, notIn(0, size - 1), made);
    }

    /** The nearest and the farthest numbers on both sides, and those that a byte, a short or a product could take for low. */
    static int[] notIn(int low, int high) {
        return new int[] {
            Integer.MIN_VALUE, Integer.MIN_VALUE + low + 1, low - 65536, low - 256, low - 1,
            high + 1, high + 256, low + 65536, low + (1 << 28), low + (1 << 30), Integer.MAX_VALUE,
        };
    }

    private static String answer(FerryRights x, Function<FerryRights, Object> made) {
        try {
            return String.valueOf(made.apply(x));
        } catch (RuntimeException e) {
            return e.getClass().getName();
        }
    }

    /** Everything that the face tells; of a full river by 411 calls at most, so that a river stays under its 512. */
    static String tellAll(FerryRights x) {
        StringBuilder text = new StringBuilder();
        int ferries = x.ferries();
        int people = x.people();
        tell(text, ferries, people, x.living(), x.crownCoins());
        for (int ferry = 0; ferry < ferries; ferry++) {
            tell(text, x.toll(ferry), x.carried(ferry));
            for (int watch = 0; watch < 4; watch++) {
                tell(text, x.crownShares(ferry, watch));
                for (int person = 0; person < people; person++) {
                    tell(text, x.shares(ferry, watch, person));
                }
            }
        }
        for (int person = 0; person < people; person++) {
            tell(text, x.isAlive(person) ? 1 : 0, x.coins(person), x.earned(person));
            tell(text, x.hasParent(person) ? x.parent(person) : -1, x.children(person), x.heirs(person));
        }
        return text.toString();
    }

    private static void tell(StringBuilder text, int... numbers) {
        for (int number : numbers) {
            text.append(number).append(' ');
        }
    }

    private static String goOn(FerryRights x) {
        StringBuilder text = new StringBuilder();
        goOn(text, x, y -> y.addFerry(20));
        goOn(text, x, FerryRights::addPerson);
        goOn(text, x, y -> y.addChild(0));
        goOn(text, x, y -> y.grant(0, 2, 0, 9));
        goOn(text, x, y -> y.give(0, 1, 0, 2, 2));
        goOn(text, x, y -> y.pay(1, 300));
        goOn(text, x, y -> y.carry(0, 13, 90));
        goOn(text, x, y -> y.buy(1, 0, 0, 2));
        goOn(text, x, y -> y.die(1));
        goOn(text, x, FerryRights::digest);
        return text.toString();
    }

    private static void goOn(StringBuilder text, FerryRights x, Function<FerryRights, Object> made) {
        text.append(answer(x, made)).append(' ');
    }
}
