import java.util.List;
import java.util.function.ToIntFunction;

/** Promises 20 to 22: a test for each sentence that names a boundary, with its words. */
public final class BoundsOfHistoryTest {
    private static final int MOST_STATES = 6;

    private static final Checks checks = new Checks();
    private static final Refusals refusals = new Refusals(checks);

    public static void main(String[] args) {
        undoOfNone();
        undoUpToSix();
        undoDropsTheOldest();
        undoBetweenChanges();
        undoOfWhatIsNoDifferent();
        undoOfNoChange();
        undoKeepsPadAndSlots();
        undoOfAFullObject();
        saveNoSlot();
        saveOfNothing();
        saveOverwrites();
        saveOfAFullObject();
        saveIsNoChange();
        restoreNoSlot();
        restoreNothingSaved();
        restoreKeeps();
        restoreIsAChange();
        restoreKeepsPadAndHistory();
        checks.finish();
    }

    private static HeavyGuests cameTimes(int times) {
        HeavyGuests x = new HeavyGuests();
        for (int i = 0; i < times; i++) {
            x.come(0, 1, 1);
        }
        return x;
    }

    /** What the object answers, but for its pad and its history. */
    private static int[] state(HeavyGuests x) {
        int[] seen = Checks.seen(x);
        seen[2] = 0;
        seen[3] = 0;
        seen[4] = 0;
        return seen;
    }

    /** undo: "NOT_POSSIBLE if there is none": at first, and when all are undone. */
    private static void undoOfNone() {
        refusals.in("new", HeavyGuests::new, "undo()", HeavyGuests::undo, HeavyGuests.NOT_POSSIBLE);
        for (int changes = 1; changes <= 14; changes++) {
            int made = changes;
            refusals.in("all of " + changes + " undone", () -> allUndone(made), "undo()", HeavyGuests::undo,
                    HeavyGuests.NOT_POSSIBLE);
        }
    }

    private static HeavyGuests allUndone(int changes) {
        HeavyGuests x = Refusals.ready();
        for (int i = 0; i < changes; i++) {
            x.come(i % 2, 6 + i, 2 + i);
        }
        for (int i = 0; i < Math.min(changes, MOST_STATES); i++) {
            x.undo();
        }
        return x;
    }

    /** undo: "A history of at most 6 states is kept"; "Returns how many changes can be undone then". */
    private static void undoUpToSix() {
        for (int changes = 1; changes <= 14; changes++) {
            HeavyGuests x = cameTimes(changes);
            int kept = Math.min(changes, MOST_STATES);
            checks.due(changes + " changes", x.count(2), kept);
            for (int undone = 1; undone <= kept; undone++) {
                checks.due("undo " + undone + " of " + changes, x.undo(), kept - undone);
                checks.due("can be undone then", x.count(2), kept - undone);
                checks.due("the total before", x.stream(0, 0), changes - undone);
            }
            checks.due("one more", x.undo(), HeavyGuests.NOT_POSSIBLE);
            checks.due("the total stays", x.stream(0, 0), changes - kept);
        }
    }

    /** undo: "when one more is recorded, the oldest one is dropped": one, not all, however often. */
    private static void undoDropsTheOldest() {
        HeavyGuests x = cameTimes(6);
        x.undo();
        x.come(0, 2, 10);
        checks.due("six again", x.count(2), 6);
        x.come(0, 2, 10);
        checks.due("the seventh", x.count(2), 6);
        int[] totals = {15, 5, 4, 3, 2, 1};
        for (int i = 0; i < 6; i++) {
            checks.due("undo", x.undo(), 5 - i);
            checks.due("the total before", x.stream(0, 0), totals[i]);
        }
        checks.due("the oldest one", x.undo(), HeavyGuests.NOT_POSSIBLE);
        for (int round = 0; round < 20; round++) {
            HeavyGuests y = cameTimes(round);
            y.seats(1 + round % 12);
            y.undo();
            checks.due("the latest one goes first", y.count(0), 4);
            checks.due("only that", y.stream(0, 0), round);
        }
    }

    /** undo: "Undoes the latest change": what was undone is gone when another change is made. */
    private static void undoBetweenChanges() {
        for (int undone = 1; undone <= 6; undone++) {
            HeavyGuests x = cameTimes(6);
            for (int i = 0; i < undone; i++) {
                x.undo();
            }
            x.come(1, 3, 7);
            checks.due("one more than were left", x.count(2), 7 - undone);
            checks.due("undo", x.undo(), 6 - undone);
            checks.due("undone in the one", x.stream(1, 0), 0);
            checks.due("not in the other", x.stream(0, 0), 6 - undone);
        }
    }

    /** undo: "each method that is a change .. records the state before it (also if nothing is different then)". */
    private static void undoOfWhatIsNoDifferent() {
        HeavyGuests x = new HeavyGuests();
        x.save(0);
        checks.due("seats", x.seats(4), 4);
        checks.due("is recorded", x.count(2), 1);
        checks.due("age", x.age(0), 0);
        checks.due("is recorded", x.count(2), 2);
        checks.due("age", x.age(1), 0);
        checks.due("is recorded", x.count(2), 3);
        checks.due("join", x.join(), 0);
        checks.due("is recorded", x.count(2), 4);
        checks.due("carryOut", Checks.carryOut(x, "a*0"), 0);
        checks.due("is recorded", x.count(2), 5);
        checks.due("restore", x.restore(0), 0);
        checks.due("is recorded", x.count(2), 6);
        for (int left = 5; left >= 0; left--) {
            checks.due("undo", x.undo(), left);
            checks.dueRow("nothing is different", state(x), state(new HeavyGuests()));
        }
    }

    /** undo: only changes are recorded: not what is saved, put, wiped or asked, nor undo itself. */
    private static void undoOfNoChange() {
        HeavyGuests x = cameTimes(2);
        x.save(0);
        x.save(1);
        x.put('a');
        x.fault();
        x.wipe();
        Checks.seen(x);
        checks.due("two changes", x.count(2), 2);
        checks.due("undo", x.undo(), 1);
        checks.due("undo is none", x.count(2), 1);
        checks.due("the total before", x.stream(0, 0), 1);
    }

    /** undo: "everything except the pad, the slots and the history is as it was before it". */
    private static void undoKeepsPadAndSlots() {
        HeavyGuests x = cameTimes(1);
        x.save(0);
        x.come(0, 1, 4);
        x.put('b');
        x.save(1);
        x.undo();
        checks.due("what was put stays", x.count(1), 1);
        x.undo();
        checks.due("what was put stays", x.count(1), 1);
        checks.due("what was wiped", x.wipe(), 1);
        checks.due("what was saved ahead of it", x.restore(0), 1);
        checks.due("what was saved behind it", x.restore(1), 5);
        Checks.carryOut(x, "c;d");
        x.undo();
        checks.due("what was carried out does not come back", x.count(1), 0);
    }

    /** undo of each kind of change of an object that is in use, or full. */
    private static void undoOfAFullObject() {
        for (ToIntFunction<HeavyGuests> change : changes()) {
            for (int state = 0; state < 3; state++) {
                HeavyGuests x = inUseOrFull(state);
                x.wipe();
                x.put('d');
                int[] before = state(x);
                int history = x.count(2);
                // What a full object refuses is no change: then there is nothing to undo.
                if (change.applyAsInt(x) >= 0) {
                    checks.due("undo", x.undo(), 5);
                } else {
                    checks.due("refused", x.count(2), history);
                }
                checks.dueRow("as it was before", state(x), before);
            }
        }
    }

    private static HeavyGuests inUseOrFull(int state) {
        return state == 0 ? Refusals.inUse() : Refusals.full(state - 1);
    }

    private static List<ToIntFunction<HeavyGuests>> changes() {
        return List.of(x -> x.seats(1), x -> x.seats(12), x -> x.come(0, 26, 9), x -> x.come(1, 26, 9), x -> x.come(0, 1, 1),
                x -> x.age(0), x -> x.age(1), HeavyGuests::join, HeavyGuests::carryOut, x -> x.restore(1));
    }

    /** save: "slot: 0 or 1"; "BAD_VALUE if there is no such slot". */
    private static void saveNoSlot() {
        for (int slot : Refusals.outside(0, 1)) {
            refusals.always("save(" + slot + ")", x -> x.save(slot), HeavyGuests.BAD_VALUE);
        }
    }

    /** save: a new object can be saved, and is there again. */
    private static void saveOfNothing() {
        for (int slot = 0; slot < 2; slot++) {
            HeavyGuests x = new HeavyGuests();
            checks.due("save(" + slot + ")", x.save(slot), 0);
            Checks.carryOut(x, "a*5;>b*6;c");
            x.seats(2);
            checks.due("restore(" + slot + ")", x.restore(slot), 0);
            checks.dueRow("as new", state(x), state(new HeavyGuests()));
        }
    }

    /** save: "overwrites what was saved there", and not in the other slot. */
    private static void saveOverwrites() {
        for (int slot = 0; slot < 2; slot++) {
            HeavyGuests x = cameTimes(1);
            checks.due("save", x.save(slot), 1);
            x.come(0, 1, 1);
            checks.due("save in the other", x.save(1 - slot), 2);
            x.come(0, 1, 1);
            checks.due("save again", x.save(slot), 3);
            x.come(0, 1, 1);
            checks.due("the later one", x.restore(slot), 3);
            checks.due("that of the other", x.restore(1 - slot), 2);
        }
    }

    /** save: "Saves everything": of an object that is in use, or full; "Returns the total of the stream 0". */
    private static void saveOfAFullObject() {
        int[] totals = {Refusals.inUse().stream(0, 0), 99999, 3};
        for (int state = 0; state < 3; state++) {
            for (int slot = 0; slot < 2; slot++) {
                HeavyGuests x = inUseOrFull(state);
                int[] before = state(x);
                checks.due("save", x.save(slot), totals[state]);
                x.wipe();
                Checks.carryOut(x, "%0;%1;&;q*9;>r");
                x.seats(7);
                x.come(1, 26, 5);
                checks.due("restore", x.restore(slot), totals[state]);
                checks.dueRow("as it was", state(x), before);
            }
        }
    }

    /** save is no change. */
    private static void saveIsNoChange() {
        for (int changes = 0; changes <= 7; changes++) {
            HeavyGuests x = cameTimes(changes);
            int[] before = Checks.seen(x);
            checks.due("save", x.save(1), changes);
            checks.dueRow("nothing is different", Checks.seen(x), before);
        }
    }

    /** restore: "slot: 0 or 1"; "BAD_VALUE if there is no such slot", ahead of NOT_POSSIBLE. */
    private static void restoreNoSlot() {
        for (int slot : Refusals.outside(0, 1)) {
            refusals.always("restore(" + slot + ")", x -> x.restore(slot), HeavyGuests.BAD_VALUE);
        }
    }

    /** restore: "NOT_POSSIBLE if nothing was saved in it", whatever was saved in the other. */
    private static void restoreNothingSaved() {
        refusals.in("new", HeavyGuests::new, "restore(0)", x -> x.restore(0), HeavyGuests.NOT_POSSIBLE);
        refusals.in("new", HeavyGuests::new, "restore(1)", x -> x.restore(1), HeavyGuests.NOT_POSSIBLE);
        refusals.in("begun", Refusals::begun, "restore(1)", x -> x.restore(1), HeavyGuests.NOT_POSSIBLE);
        refusals.in("only in 1", () -> Refusals.inUse(false, true, "a;b"), "restore(0)", x -> x.restore(0),
                HeavyGuests.NOT_POSSIBLE);
        refusals.in("only in 0", () -> Refusals.inUse(true, false, "a;b"), "restore(1)", x -> x.restore(1),
                HeavyGuests.NOT_POSSIBLE);
        refusals.in("full", () -> Refusals.full(0), "restore(0)", x -> x.restore(0), HeavyGuests.NOT_POSSIBLE);
        HeavyGuests x = new HeavyGuests();
        x.save(-1);
        x.save(2);
        checks.due("what was not saved", x.restore(0), HeavyGuests.NOT_POSSIBLE);
        checks.due("what was not saved", x.restore(1), HeavyGuests.NOT_POSSIBLE);
    }

    /** restore: "what was saved last in a slot, which keeps it": however often it is restored. */
    private static void restoreKeeps() {
        for (int rounds = 0; rounds < 4; rounds++) {
            for (int slot = 0; slot < 2; slot++) {
                HeavyGuests x = Refusals.inUse();
                x.save(0);
                int[] inZero = state(x);
                x.seats(12);
                x.wipe();
                Checks.carryOut(x, "&;z*9");
                x.save(1);
                int[] inOne = state(x);
                for (int round = 0; round < rounds; round++) {
                    x.restore(0);
                    Checks.carryOut(x, "%0;&;y*7");
                    x.seats(1);
                    x.restore(1);
                    Checks.carryOut(x, ">b;%0;c*9");
                }
                x.restore(slot);
                checks.dueRow("slot " + slot + " after " + rounds + " rounds", state(x), slot == 0 ? inZero : inOne);
            }
        }
    }

    /** restore: "This is a change": it can be undone, up to 6 are recorded. */
    private static void restoreIsAChange() {
        for (int changes = 0; changes <= 7; changes++) {
            HeavyGuests x = new HeavyGuests();
            x.save(0);
            for (int i = 0; i < changes; i++) {
                x.come(0, 1, 1);
            }
            checks.due("restore", x.restore(0), 0);
            checks.due("one more, up to 6", x.count(2), Math.min(changes + 1, 6));
            checks.due("undo", x.undo(), Math.min(changes, 5));
            checks.due("the total before", x.stream(0, 0), changes);
        }
    }

    /** save: "everything except the pad, the history and the slots": restore leaves these as they are. */
    private static void restoreKeepsPadAndHistory() {
        HeavyGuests x = cameTimes(2);
        x.put('b');
        x.save(0);
        x.come(0, 1, 1);
        x.put(';');
        x.put('c');
        checks.due("restore", x.restore(0), 2);
        checks.due("the pad stays", x.count(1), 3);
        checks.due("the history stays", x.count(2), 4);
        checks.due("the pad can be carried out", x.carryOut(), 2);
        x.undo();
        checks.due("undo of restore", x.undo(), 3);
        checks.due("the total before", x.stream(0, 0), 3);
        checks.due("undo of what was there", x.undo(), 2);
        checks.due("the total before", x.stream(0, 0), 2);
    }
}
