/** Promises 6 to 15: seat, of, stream, count, above, heaviest, truly, sureOrder, wouldTake, doubt. */
public final class QuestionsTest {
    private static final int[] WRONG_STREAMS = {-1, 2, 3, Integer.MIN_VALUE, Integer.MAX_VALUE};
    private static final int[] WRONG_CODES = {0, -1, 27, 54, 27 * 27, 27 * 28, 27 * 27 * 27 + 27 + 1, 531441, 551881,
            Integer.MIN_VALUE, Integer.MAX_VALUE};

    private static final Checks checks = new Checks();

    public static void main(String[] args) {
        seat();
        of();
        ofNames();
        stream();
        count();
        above();
        aboveEdges();
        heaviest();
        truly();
        sureOrder();
        wouldTake();
        doubt();
        nothingChanges();
        checks.finish();
    }

    /** Two seats: a 5, c 5 with an excess of 3; b was there 3 times. Stream 1: d 8. */
    private static HeavyGuests example() {
        HeavyGuests x = new HeavyGuests();
        x.seats(2);
        Checks.carryOut(x, "a*5;b*3;c*2;>d*8");
        return x;
    }

    private static void seat() {
        HeavyGuests x = example();
        checks.dueRow("seats", Checks.row(x, 0), 1, 5, 0, 5, 3, 5, 3, 2);
        checks.dueRow("seats of 1", Checks.row(x, 1), 4, 8, 0, 8);
        for (int stream : WRONG_STREAMS) {
            checks.due("seat of " + stream, x.seat(stream, 0, 0), HeavyGuests.NO_SUCH);
            checks.due("seat of " + stream, x.seat(stream, 0, 9), HeavyGuests.NO_SUCH);
        }
        for (int seat : new int[] {2, 11, 12, 24, -1, Integer.MIN_VALUE, Integer.MAX_VALUE}) {
            checks.due("seat " + seat, x.seat(0, seat, 0), HeavyGuests.NO_SUCH);
            checks.due("the seat is looked at first", x.seat(0, seat, 4), HeavyGuests.NO_SUCH);
        }
        checks.due("not taken", x.seat(1, 1, 0), HeavyGuests.NO_SUCH);
        for (int what : new int[] {-1, 4, 5, Integer.MIN_VALUE, Integer.MAX_VALUE}) {
            checks.due("what " + what, x.seat(0, 0, what), HeavyGuests.BAD_VALUE);
        }
    }

    private static void of() {
        HeavyGuests x = example();
        checks.due("seat of a", x.of(0, 1, 0), 0);
        checks.due("seat of b", x.of(0, 2, 0), HeavyGuests.NONE);
        checks.due("seat of c", x.of(0, 3, 0), 1);
        checks.due("seat of one who never came", x.of(0, 99, 0), HeavyGuests.NONE);
        checks.due("most of a", x.of(0, 1, 1), 5);
        checks.due("most of b, the least count of all seats", x.of(0, 2, 1), 5);
        checks.due("most of c", x.of(0, 3, 1), 5);
        checks.due("most of d, who has no seat here", x.of(0, 4, 1), 5);
        checks.due("most of one, while not all are taken", x.of(1, 1, 1), 0);
        checks.due("least of a", x.of(0, 1, 2), 5);
        checks.due("least of b", x.of(0, 2, 2), 0);
        checks.due("least of c", x.of(0, 3, 2), 2);
        checks.due("truly a", x.of(0, 1, 3), 5);
        checks.due("truly b", x.of(0, 2, 3), 3);
        checks.due("truly c", x.of(0, 3, 3), 2);
        checks.due("truly d here", x.of(0, 4, 3), 0);
        checks.due("truly d there", x.of(1, 4, 3), 8);
        for (int stream : WRONG_STREAMS) {
            checks.due("of " + stream, x.of(stream, 0, 9), HeavyGuests.NO_SUCH);
        }
        for (int code : WRONG_CODES) {
            for (int what = 0; what < 5; what++) {
                checks.due("of guest " + code, x.of(0, code, what), HeavyGuests.BAD_VALUE);
            }
        }
        for (int what : new int[] {-1, 5, Integer.MIN_VALUE, Integer.MAX_VALUE}) {
            checks.due("what " + what, x.of(0, 1, what), HeavyGuests.BAD_VALUE);
        }
    }

    private static void ofNames() {
        HeavyGuests x = new HeavyGuests();
        for (String name : new String[] {"a", "z", "aa", "az", "zz", "aaa", "zzz", "aaaa", "zzzz", "mine"}) {
            checks.due("letters of " + name, x.of(1, Checks.code(name), 4), name.length());
        }
        int codes = 0;
        for (int code = 0; code < 30; code++) {
            codes += x.of(0, code, 4) > 0 ? 1 : 0;
        }
        checks.due("codes below 30: a to z, aa, ab", codes, 28);
    }

    private static void stream() {
        HeavyGuests x = example();
        checks.dueRow("numbers", Checks.numbers(x, 0), 10, 2, 3, 5, 10, 3, 1);
        checks.dueRow("numbers of 1", Checks.numbers(x, 1), 8, 1, 1, 0, 8, 0, 0);
        x.come(0, 1, 2);
        x.come(0, 2, 1);
        checks.dueRow("numbers", Checks.numbers(x, 0), 13, 2, 3, 6, 13, 5, 2);
        x.seats(3);
        checks.dueRow("not all are taken", Checks.numbers(x, 0), 13, 2, 3, 0, 13, 5, 2);
        HeavyGuests y = new HeavyGuests();
        y.seats(2);
        Checks.carryOut(y, "a*2;b*3;c");
        checks.dueRow("the first seat's excess", Checks.numbers(y, 0), 6, 2, 3, 3, 6, 2, 1);
        for (int stream : WRONG_STREAMS) {
            checks.due("stream " + stream, x.stream(stream, 0), HeavyGuests.NO_SUCH);
            checks.due("stream " + stream, x.stream(stream, 7), HeavyGuests.NO_SUCH);
        }
        for (int what : new int[] {-1, 7, Integer.MIN_VALUE, Integer.MAX_VALUE}) {
            checks.due("what " + what, x.stream(1, what), HeavyGuests.BAD_VALUE);
        }
    }

    private static void count() {
        HeavyGuests x = example();
        checks.due("SEATS", x.count(0), 2);
        checks.due("pad", x.count(1), 0);
        checks.due("history", x.count(2), 2);
        Checks.put(x, "abcabcabcabc");
        checks.due("pad", x.count(1), 12);
        checks.due("history", x.count(2), 2);
        for (int what : new int[] {-1, 3, Integer.MIN_VALUE, Integer.MAX_VALUE}) {
            checks.due("count(" + what + ")", x.count(what), HeavyGuests.BAD_VALUE);
        }
    }

    private static void above() {
        HeavyGuests x = example();
        // Of 10: a surely 5, c surely 2; both perhaps 5; truly 5, 3 and 2.
        int[][] due = {{0, 2, 2, 3}, {19, 2, 2, 3}, {20, 1, 2, 2}, {29, 1, 2, 2}, {30, 1, 2, 1}, {49, 1, 2, 1},
            {50, 0, 0, 0}, {100, 0, 0, 0}};
        for (int[] row : due) {
            for (int what = 0; what < 3; what++) {
                checks.due("above " + row[0] + ", " + what, x.above(0, row[0], what), row[1 + what]);
            }
        }
        checks.due("above 99 in 1", x.above(1, 99, 0), 1);
        checks.due("above 100 in 1", x.above(1, 100, 0), 0);
        for (int stream : WRONG_STREAMS) {
            checks.due("above in " + stream, x.above(stream, 101, 3), HeavyGuests.NO_SUCH);
        }
        for (int hundredths : new int[] {-1, 101, Integer.MIN_VALUE, Integer.MAX_VALUE}) {
            checks.due("above " + hundredths, x.above(0, hundredths, 0), HeavyGuests.BAD_VALUE);
        }
        for (int what : new int[] {-1, 3, Integer.MIN_VALUE, Integer.MAX_VALUE}) {
            checks.due("above, " + what, x.above(0, 0, what), HeavyGuests.BAD_VALUE);
        }
    }

    private static void aboveEdges() {
        HeavyGuests x = new HeavyGuests();
        for (int what = 0; what < 3; what++) {
            checks.due("above without guests", x.above(0, 0, what), 0);
        }
        for (int i = 0; i < 100; i++) {
            x.come(0, 1, 999);
        }
        x.come(0, 2, 99);
        for (int what = 0; what < 3; what++) {
            checks.due("above 0 of 99999", x.above(0, 0, what), 2);
            checks.due("above 99 of 99999", x.above(0, 99, what), 1);
            checks.due("above 100 of 99999", x.above(0, 100, what), 0);
        }
        // One seat, taken over: surely 1, perhaps 5, and of all who came two are above 10.
        HeavyGuests y = new HeavyGuests();
        y.seats(1);
        Checks.carryOut(y, "a*4;b");
        checks.due("surely above 20", y.above(0, 20, 0), 0);
        checks.due("surely above 19", y.above(0, 19, 0), 1);
        checks.due("perhaps above 99", y.above(0, 99, 1), 1);
        checks.due("truly above 19", y.above(0, 19, 2), 2);
    }

    private static void heaviest() {
        HeavyGuests x = new HeavyGuests();
        Checks.carryOut(x, "z*3;b*5;y*3;c*7");
        checks.dueRow("by count, then by code", Checks.heaviest(x, 0), 3, 2, 25, 26);
        Checks.carryOut(x, ">c*4;>d*1;>b*5;>a*5;>e*3");
        // e took the seat of d: 4 with an excess of 1, behind c with none.
        checks.dueRow("by excess ahead of code", Checks.heaviest(x, 1), 1, 2, 3, 5);
        Checks.carryOut(x, ">aa*1");
        checks.dueRow("by count ahead of excess", Checks.heaviest(x, 1), 1, 2, 28, 3);
        for (int place : new int[] {4, 11, 12, 24, -1, Integer.MIN_VALUE, Integer.MAX_VALUE}) {
            checks.due("heaviest " + place, x.heaviest(0, place), HeavyGuests.NO_SUCH);
        }
        for (int stream : WRONG_STREAMS) {
            checks.due("heaviest of " + stream, x.heaviest(stream, 0), HeavyGuests.NO_SUCH);
        }
    }

    private static void truly() {
        HeavyGuests x = new HeavyGuests();
        x.seats(1);
        Checks.carryOut(x, "z*3;b*5;y*3;c*7;y;>q");
        checks.dueRow("by count, then by code", Checks.tally(x, 0), 3, 7, 2, 5, 25, 4, 26, 3);
        Checks.carryOut(x, "z*2;a*5");
        checks.dueRow("moved up among those alike", Checks.tally(x, 0), 3, 7, 1, 5, 2, 5, 26, 5, 25, 4);
        checks.dueRow("of the other", Checks.tally(x, 1), 17, 1);
        for (int place : new int[] {5, 59, 60, 61, -1, Integer.MIN_VALUE, Integer.MAX_VALUE}) {
            checks.due("truly " + place, x.truly(0, place), HeavyGuests.NO_SUCH);
        }
        for (int stream : WRONG_STREAMS) {
            checks.due("truly of " + stream, x.truly(stream, 0), HeavyGuests.NO_SUCH);
        }
        HeavyGuests y = new HeavyGuests();
        for (int i = 0; i < 60; i++) {
            y.come(0, Checks.codeNumber(59 - i), 1 + i % 3);
        }
        checks.due("place 0", y.truly(0, 0), Checks.codeNumber(0));
        checks.due("place 19", y.truly(0, 19), Checks.codeNumber(57));
        checks.due("place 20", y.truly(0, 20), Checks.codeNumber(1));
        checks.due("place 59", y.truly(0, 59), Checks.codeNumber(59));
        checks.due("place 60", y.truly(0, 60), HeavyGuests.NO_SUCH);
    }

    private static void sureOrder() {
        HeavyGuests x = new HeavyGuests();
        checks.due("of none", x.sureOrder(0), 0);
        Checks.carryOut(x, "a*3;b*5;c*3");
        checks.due("nothing was taken over", x.sureOrder(0), 3);
        Checks.carryOut(x, "d*2");
        checks.due("all are taken, none was taken over", x.sureOrder(0), 4);
        Checks.carryOut(x, "e");
        // b 5, a 3, c 3, e 3 with an excess of 2.
        checks.due("the last one is not sure", x.sureOrder(0), 3);
        Checks.carryOut(x, "e*3");
        // e 6 with an excess of 2, then b 5.
        checks.due("the first one is not sure", x.sureOrder(0), 0);
        Checks.carryOut(x, "e");
        checks.due("the first one is just sure", x.sureOrder(0), 4);
        x.seats(1);
        Checks.carryOut(x, ">a*2;>b*2");
        // b 4 with an excess of 2: a guest without a seat can have come 4 times.
        checks.due("guests without seats count", x.sureOrder(1), 0);
        x.seats(2);
        checks.due("none can have come while a seat is free", x.sureOrder(1), 1);
        for (int stream : WRONG_STREAMS) {
            checks.due("sureOrder of " + stream, x.sureOrder(stream), HeavyGuests.NO_SUCH);
        }
    }

    private static void wouldTake() {
        HeavyGuests x = new HeavyGuests();
        checks.due("the first seat", x.wouldTake(0, 7), 0);
        Checks.carryOut(x, "a*3;b*2;c*2");
        checks.due("the next seat", x.wouldTake(0, 7), 3);
        checks.due("its own seat", x.wouldTake(0, 2), 1);
        Checks.carryOut(x, "d*9");
        checks.due("the lowest number", x.wouldTake(0, 7), 1);
        Checks.carryOut(x, "e;b*2;c");
        // a 3, e 3 with 2, and b, who took the seat of c: 4 with 2, and c that of e: 4 with 3.
        checks.dueRow("seats", Checks.row(x, 0), 1, 3, 0, 3, 3, 4, 3, 3, 2, 4, 2, 4, 4, 9, 0, 9);
        checks.due("the least count", x.wouldTake(0, 7), 0);
        Checks.carryOut(x, "a");
        checks.due("the greatest excess", x.wouldTake(0, 7), 1);
        checks.due("come does as told", x.come(0, 7, 1), 1);
        for (int stream : WRONG_STREAMS) {
            checks.due("wouldTake of " + stream, x.wouldTake(stream, 0), HeavyGuests.NO_SUCH);
        }
        for (int code : WRONG_CODES) {
            checks.due("wouldTake by " + code, x.wouldTake(0, code), HeavyGuests.BAD_VALUE);
        }
        HeavyGuests y = new HeavyGuests();
        for (int i = 0; i < 60; i++) {
            y.come(0, Checks.codeNumber(i), 1);
        }
        checks.due("also for one who could not come", y.wouldTake(0, Checks.codeNumber(60)), 0);
    }

    private static void doubt() {
        HeavyGuests x = example();
        checks.due("doubt of a", x.doubt(0, 1), 0);
        checks.due("doubt of b", x.doubt(0, 2), 5);
        checks.due("doubt of c", x.doubt(0, 3), 3);
        checks.due("doubt of one who never came", x.doubt(0, 99), 5);
        checks.due("doubt while a seat is free", x.doubt(1, 99), 0);
        for (int stream : WRONG_STREAMS) {
            checks.due("doubt of " + stream, x.doubt(stream, 0), HeavyGuests.NO_SUCH);
        }
        for (int code : WRONG_CODES) {
            checks.due("doubt by " + code, x.doubt(0, code), HeavyGuests.BAD_VALUE);
        }
    }

    private static void nothingChanges() {
        HeavyGuests x = example();
        x.seat(0, 0, 0);
        x.of(0, 1, 1);
        x.stream(0, 3);
        x.above(0, 10, 2);
        x.heaviest(0, 1);
        x.truly(0, 1);
        x.sureOrder(0);
        x.wouldTake(0, 9);
        x.doubt(0, 9);
        checks.due("questions record nothing", x.count(2), 2);
        checks.dueRow("questions change nothing", Checks.row(x, 0), 1, 5, 0, 5, 3, 5, 3, 2);
        checks.dueRow("questions change nothing", Checks.numbers(x, 0), 10, 2, 3, 5, 10, 3, 1);
    }
}
