/** Promises 20 to 22: undo, save, restore. */
public final class HistoryTest {
    private static final Checks checks = new Checks();

    public static void main(String[] args) {
        undo();
        undoOfEachChange();
        atMostSix();
        padAndSlotsStay();
        save();
        restore();
        slotsAreApart();
        checks.finish();
    }

    private static void undo() {
        HeavyGuests x = new HeavyGuests();
        checks.due("undo of nothing", x.undo(), HeavyGuests.NOT_POSSIBLE);
        x.come(0, 1, 5);
        x.come(0, 2, 3);
        x.come(0, 1, 2);
        checks.due("undo", x.undo(), 2);
        checks.dueRow("before the last", Checks.row(x, 0), 1, 5, 0, 5, 2, 3, 0, 3);
        checks.due("a change behind an undo", x.come(0, 3, 1), 2);
        checks.due("history", x.count(2), 3);
        checks.due("undo", x.undo(), 2);
        checks.due("undo", x.undo(), 1);
        checks.dueRow("before the second", Checks.row(x, 0), 1, 5, 0, 5);
        checks.due("undo", x.undo(), 0);
        checks.dueRow("at first", Checks.numbers(x, 0), 0, 0, 0, 0, 0, 0, 0);
        checks.due("undo of nothing", x.undo(), HeavyGuests.NOT_POSSIBLE);
        x.age(0);
        x.seats(4);
        checks.due("also if nothing is different", x.count(2), 2);
        x.come(0, 0, 1);
        x.age(2);
        x.seats(0);
        x.carryOut();
        x.restore(0);
        checks.due("errors record nothing", x.count(2), 2);
    }

    private static void undoOfEachChange() {
        HeavyGuests x = new HeavyGuests();
        x.seats(2);
        Checks.carryOut(x, "a*5;b*3;c*2;>b*6;>d*4;>e*9");
        x.save(1);
        x.undo();
        Checks.carryOut(x, "z");
        x.restore(1);
        int[] rowZero = Checks.row(x, 0);
        int[] rowOne = Checks.row(x, 1);
        int[] numbersZero = Checks.numbers(x, 0);
        int[] numbersOne = Checks.numbers(x, 1);
        int[] tallyZero = Checks.tally(x, 0);
        int[] tallyOne = Checks.tally(x, 1);
        for (int change = 0; change < 8; change++) {
            if (change == 0) {
                x.seats(1);
            } else if (change == 1) {
                x.seats(12);
            } else if (change == 2) {
                x.come(0, 9, 7);
            } else if (change == 3) {
                x.come(1, 8, 7);
            } else if (change == 4) {
                x.age(0);
            } else if (change == 5) {
                x.age(1);
            } else if (change == 6) {
                x.join();
            } else {
                Checks.carryOut(x, "f*3;>f*4;&;%0;%1;>g");
            }
            x.undo();
            checks.due("SEATS after " + change, x.count(0), 2);
            checks.dueRow("seats after " + change, Checks.row(x, 0), rowZero);
            checks.dueRow("seats after " + change, Checks.row(x, 1), rowOne);
            checks.dueRow("numbers after " + change, Checks.numbers(x, 0), numbersZero);
            checks.dueRow("numbers after " + change, Checks.numbers(x, 1), numbersOne);
            checks.dueRow("true counts after " + change, Checks.tally(x, 0), tallyZero);
            checks.dueRow("true counts after " + change, Checks.tally(x, 1), tallyOne);
        }
    }

    private static void atMostSix() {
        HeavyGuests x = new HeavyGuests();
        for (int i = 1; i <= 20; i++) {
            x.come(0, 1, 1);
            checks.due("history", x.count(2), Math.min(i, 6));
        }
        for (int i = 5; i >= 0; i--) {
            checks.due("undo", x.undo(), i);
            checks.due("total", x.stream(0, 0), 14 + i);
        }
        checks.due("the oldest ones were dropped", x.undo(), HeavyGuests.NOT_POSSIBLE);
        checks.due("total", x.stream(0, 0), 14);
        for (int i = 0; i < 7; i++) {
            x.come(0, 1, 10);
        }
        x.undo();
        x.undo();
        x.come(0, 1, 100);
        checks.due("history", x.count(2), 5);
        x.undo();
        checks.due("total", x.stream(0, 0), 64);
    }

    private static void padAndSlotsStay() {
        HeavyGuests x = new HeavyGuests();
        x.come(0, 1, 5);
        x.save(0);
        Checks.put(x, "abc");
        x.come(0, 2, 3);
        x.undo();
        x.undo();
        checks.due("the pad stays", x.count(1), 3);
        checks.due("the pad stays", x.carryOut(), 1);
        checks.due("the slot stays", x.restore(0), 5);
        checks.due("restoring is a change", x.count(2), 2);
        x.undo();
        checks.due("undone", x.of(0, Checks.code("abc"), 3), 1);
        x.save(1);
        x.undo();
        checks.due("a slot that was saved before an undo", x.restore(1), 1);
    }

    private static void save() {
        HeavyGuests x = new HeavyGuests();
        for (int slot : new int[] {-1, 2, Integer.MIN_VALUE, Integer.MAX_VALUE}) {
            checks.due("save(" + slot + ")", x.save(slot), HeavyGuests.BAD_VALUE);
        }
        checks.due("save of nothing", x.save(0), 0);
        Checks.carryOut(x, "a*5;>b*7");
        checks.due("the total of the stream 0", x.save(1), 5);
        checks.due("no change", x.count(2), 1);
        checks.due("restore", x.restore(0), 0);
        checks.due("the stream 1, too", x.stream(1, 0), 0);
        checks.due("overwritten", x.save(1), 0);
        x.come(0, 1, 1);
        checks.due("overwritten", x.restore(1), 0);
    }

    private static void restore() {
        HeavyGuests x = new HeavyGuests();
        for (int slot : new int[] {-1, 2, Integer.MIN_VALUE, Integer.MAX_VALUE}) {
            checks.due("restore(" + slot + ")", x.restore(slot), HeavyGuests.BAD_VALUE);
        }
        checks.due("nothing was saved", x.restore(1), HeavyGuests.NOT_POSSIBLE);
        x.seats(2);
        Checks.carryOut(x, "a*5;b*3;c*2;>d*4;>e*9;>f*1;>g*1");
        x.save(1);
        checks.due("nothing was saved here", x.restore(0), HeavyGuests.NOT_POSSIBLE);
        int[] rowZero = Checks.row(x, 0);
        int[] rowOne = Checks.row(x, 1);
        int[] numbersOne = Checks.numbers(x, 1);
        int[] tallyOne = Checks.tally(x, 1);
        for (int round = 0; round < 2; round++) {
            x.seats(5);
            Checks.carryOut(x, "q*9;&;%0;>r;>s");
            Checks.put(x, "ab");
            checks.due("restore", x.restore(1), 10);
            checks.due("SEATS", x.count(0), 2);
            checks.dueRow("seats", Checks.row(x, 0), rowZero);
            checks.dueRow("seats", Checks.row(x, 1), rowOne);
            checks.dueRow("numbers", Checks.numbers(x, 1), numbersOne);
            checks.dueRow("true counts", Checks.tally(x, 1), tallyOne);
            checks.due("the pad stays", x.wipe(), 2);
            x.come(0, 1, 3);
        }
        checks.due("the history stays", x.count(2), 6);
    }

    private static void slotsAreApart() {
        HeavyGuests x = new HeavyGuests();
        x.come(0, 1, 5);
        x.save(0);
        x.come(0, 1, 6);
        x.save(1);
        x.come(0, 1, 7);
        checks.due("restore(0)", x.restore(0), 5);
        x.come(0, 2, 1);
        checks.due("restore(1)", x.restore(1), 11);
        checks.due("restore(0) keeps what was saved", x.restore(0), 5);
        checks.due("seat", x.stream(0, 1), 1);
    }
}
