import java.util.function.Supplier;
import java.util.function.ToIntFunction;

/**
 * Looks after "A call that returns an error changes nothing": one object is asked for what it has to
 * refuse, its twin is not, and afterwards both have to answer alike, also when changes are undone,
 * slots restored and the pad carried out. Each look takes new twins, as no object is used for more
 * than 512 calls.
 */
final class Refusals {
    /** At the bounds, with a digit 0 at each place, of five letters, and what would be a code if high bits were lost. */
    static final int[] NO_CODES = {0, -1, -26, -27, 27, 54, 27 * 26, 27 * 27, 27 * 27 + 1, 27 * 27 + 26, 756, 19683, 20439,
        531441, 531440 + 65536, 531467, 1 << 31 | 1, Integer.MIN_VALUE, Integer.MAX_VALUE};

    private static final int LOOKS = 11;

    private final Checks checks;

    Refusals(Checks checks) {
        this.checks = checks;
    }

    /** For calls that have to be refused whatever the object holds. */
    void always(String call, ToIntFunction<HeavyGuests> asked, int error) {
        in("new", HeavyGuests::new, call, asked, error);
        in("in use", Refusals::inUse, call, asked, error);
        in("begun", Refusals::begun, call, asked, error);
        in("full, stream 0", () -> full(0), call, asked, error);
        in("full, stream 1", () -> full(1), call, asked, error);
    }

    void in(String state, Supplier<HeavyGuests> made, String call, ToIntFunction<HeavyGuests> asked, int error) {
        String told = call + " (" + state + ")";
        checks.due(told, asked.applyAsInt(made.get()), error);
        for (int look = 0; look < LOOKS; look++) {
            HeavyGuests x = made.get();
            asked.applyAsInt(x);
            checks.dueRow(told + " changes nothing, look " + look, look(x, look), look(made.get(), look));
        }
    }

    /** Look 0 is what is there now, 1 to 6 what was before the latest changes, the others slots and pad. */
    private static int[] look(HeavyGuests x, int look) {
        int answer = 0;
        for (int i = 0; i < look && look <= 6; i++) {
            answer = 10 * answer + x.undo();
        }
        if (look == 7 || look == 8) {
            answer = x.restore(look - 7);
        } else if (look == 9) {
            answer = x.carryOut();
        } else if (look == 10) {
            answer = 10 * x.put('a') + x.carryOut();
        }
        int[] seen = Checks.seen(x);
        seen[0] = answer;
        return seen;
    }

    /** Both streams were taken over, the history is full, both slots and the pad hold something. */
    static HeavyGuests inUse() {
        return inUse(true, true, "a*5;>b;&;%1");
    }

    static HeavyGuests inUse(boolean isSavedInZero, boolean isSavedInOne, String pad) {
        HeavyGuests x = new HeavyGuests();
        x.come(0, 8, 2);
        x.come(1, 9, 3);
        if (isSavedInOne) {
            x.save(1);
        }
        x.seats(3);
        Checks.carryOut(x, "a*5;b*3;c*2;d*4;>a*7;>e*2;>f*2;>g*6");
        if (isSavedInZero) {
            x.save(0);
        }
        x.come(0, 1, 6);
        x.age(1);
        x.come(1, 5, 9);
        x.come(0, 6, 1);
        x.come(0, 7, 8);
        x.come(1, 8, 1);
        Checks.put(x, pad);
        return x;
    }

    /** No guest and no change, but both slots and the pad hold something. */
    static HeavyGuests ready() {
        HeavyGuests x = new HeavyGuests();
        x.come(0, 8, 2);
        x.come(1, 9, 3);
        x.save(1);
        x.come(0, 7, 5);
        x.save(0);
        for (int i = 0; i < 3; i++) {
            x.undo();
        }
        Checks.put(x, "a*5;>b;&;%1");
        return x;
    }

    /** One stream has a guest, the history two changes, a slot nothing, the pad a text that ends too early. */
    static HeavyGuests begun() {
        HeavyGuests x = new HeavyGuests();
        x.come(0, 2, 1);
        x.save(0);
        x.seats(1);
        Checks.put(x, "b;");
        return x;
    }

    /** The stream has its 60 unlike guests and its greatest total, the pad its 80 characters. */
    static HeavyGuests full(int stream) {
        HeavyGuests x = new HeavyGuests();
        for (int i = 0; i < 100; i++) {
            x.come(stream, Checks.codeNumber(i % 60), 999);
        }
        x.come(stream, 1, 99);
        x.come(1 - stream, 2, 3);
        x.save(1);
        Checks.put(x, "a*999;".repeat(13) + "%0");
        return x;
    }

    /** Numbers near the bounds, and far ones that would be within if their high bits were lost. */
    static int[] outside(int least, int greatest) {
        int[] all = {least - 1, greatest + 1, least - 2, greatest + 2, -greatest, least + (1 << 8), greatest + (1 << 8),
            least + (1 << 16), greatest + (1 << 16), least + (1 << 31), greatest + (1 << 31), Integer.MIN_VALUE,
            Integer.MAX_VALUE};
        return java.util.Arrays.stream(all).filter(number -> number < least || number > greatest).toArray();
    }
}
