/** Promises 1 to 5: a new object, seats, come, age, join. */
public final class ChangesTest {
    private static final int[] WRONG_STREAMS = {-1, 2, 3, Integer.MIN_VALUE, Integer.MAX_VALUE};
    private static final int[] WRONG_CODES = {0, -1, 27, 54, 27 * 27, 27 * 28, 27 * 27 * 27 + 27 + 1, 531441, 551881,
            Integer.MIN_VALUE, Integer.MAX_VALUE};

    private static final Checks checks = new Checks();

    public static void main(String[] args) {
        newObject();
        seats();
        seatsGivenUp();
        come();
        comeTakesOver();
        comeRefused();
        comeTooMany();
        age();
        ageGivesUp();
        join();
        joinWithGuestsWithoutSeats();
        joinTwice();
        joinOrder();
        joinTooMany();
        checks.finish();
    }

    private static void newObject() {
        HeavyGuests x = new HeavyGuests();
        for (int stream = 0; stream < 2; stream++) {
            checks.dueRow("new: numbers", Checks.numbers(x, stream), 0, 0, 0, 0, 0, 0, 0);
            checks.due("new: truly", x.truly(stream, 0), HeavyGuests.NO_SUCH);
            checks.due("new: heaviest", x.heaviest(stream, 0), HeavyGuests.NO_SUCH);
        }
        checks.due("new: SEATS", x.count(0), 4);
        checks.due("new: pad", x.count(1), 0);
        checks.due("new: history", x.count(2), 0);
        checks.due("new: restore(0)", x.restore(0), HeavyGuests.NOT_POSSIBLE);
        checks.due("new: restore(1)", x.restore(1), HeavyGuests.NOT_POSSIBLE);
        HeavyGuests y = new HeavyGuests();
        y.come(0, 1, 1);
        checks.due("objects share nothing", x.stream(0, 0), 0);
    }

    private static void seats() {
        HeavyGuests x = new HeavyGuests();
        for (int wrong : new int[] {0, 13, -1, Integer.MIN_VALUE, Integer.MAX_VALUE}) {
            checks.due("seats(" + wrong + ")", x.seats(wrong), HeavyGuests.BAD_VALUE);
        }
        checks.due("refused seats record nothing", x.count(2), 0);
        checks.due("refused seats change nothing", x.count(0), 4);
        checks.due("seats(12)", x.seats(12), 4);
        checks.due("seats(12)", x.seats(12), 12);
        checks.due("seats(1)", x.seats(1), 12);
        checks.due("seats(1)", x.count(0), 1);
        checks.due("each is a change, also the one that changes nothing", x.count(2), 3);
        x.seats(12);
        for (int i = 0; i < 13; i++) {
            checks.due("come with 12 seats", x.come(1, Checks.codeNumber(i), 20 - i), Math.min(i, 11));
        }
        checks.due("12 seats are taken", x.stream(1, 1), 12);
        checks.due("one was taken over", x.stream(1, 6), 1);
    }

    private static void seatsGivenUp() {
        HeavyGuests x = new HeavyGuests();
        x.seats(3);
        Checks.carryOut(x, "a*5;b*2;c*7;d*3;e*7");
        // d took b's seat (5, 2), e the one of d, which had an excess (12, 5).
        checks.dueRow("before", Checks.row(x, 0), 1, 5, 0, 5, 5, 12, 5, 7, 3, 7, 0, 7);
        Checks.carryOut(x, ">a*3;>b*3;>c*4");
        checks.due("seats(2)", x.seats(2), 3);
        checks.dueRow("the least count goes, those behind move up", Checks.row(x, 0), 5, 12, 5, 7, 3, 7, 0, 7);
        checks.dueRow("alike: the lowest number goes", Checks.row(x, 1), 2, 3, 0, 3, 3, 4, 0, 4);
        checks.due("giving up is no taking over", x.stream(0, 6), 2);
        checks.due("true counts stay", x.of(0, 1, 3), 5);
        checks.due("the total stays", x.stream(0, 0), 24);
        checks.due("all are taken", x.stream(0, 3), 7);
        checks.due("seats(3)", x.seats(3), 2);
        checks.due("not all are taken", x.stream(0, 3), 0);

        HeavyGuests y = new HeavyGuests();
        Checks.carryOut(y, "a*3;b*2;c*3;d;e*2");
        // e took the seat of d: a 3, b 2, c 3, e 3 with an excess of 1.
        checks.due("seats(2)", y.seats(2), 4);
        checks.dueRow("one after the other: b, then e for its excess", Checks.row(y, 0), 1, 3, 0, 3, 3, 3, 0, 3);

        HeavyGuests z = new HeavyGuests();
        Checks.carryOut(z, "a;b");
        checks.due("seats(2)", z.seats(2), 4);
        checks.due("seats that are not taken go first", z.stream(0, 1), 2);
    }

    private static void come() {
        HeavyGuests x = new HeavyGuests();
        checks.due("come", x.come(0, 531440, 999), 0);
        checks.due("come", x.come(0, Checks.code("az"), 1), 1);
        checks.due("come again", x.come(0, 531440, 2), 0);
        checks.due("come", x.come(0, 26, 3), 2);
        checks.due("come to the other", x.come(1, 26, 4), 0);
        checks.dueRow("seats of 0", Checks.row(x, 0), 531440, 1001, 0, 1001, 53, 1, 0, 1, 26, 3, 0, 3);
        checks.dueRow("seats of 1", Checks.row(x, 1), 26, 4, 0, 4);
        checks.dueRow("numbers of 0", Checks.numbers(x, 0), 1005, 3, 3, 0, 1005, 0, 0);
        checks.dueRow("numbers of 1", Checks.numbers(x, 1), 4, 1, 1, 0, 4, 0, 0);
        checks.due("each is a change", x.count(2), 5);
    }

    private static void comeTakesOver() {
        HeavyGuests x = new HeavyGuests();
        x.seats(3);
        x.come(0, 1, 4);
        x.come(0, 2, 2);
        x.come(0, 3, 2);
        checks.due("the lowest number of those alike", x.come(0, 4, 1), 1);
        checks.dueRow("taken over", Checks.row(x, 0), 1, 4, 0, 4, 4, 3, 2, 1, 3, 2, 0, 2);
        checks.due("the least count", x.come(0, 5, 1), 2);
        checks.due("two with 3, both with an excess of 2", x.come(0, 3, 1), 1);
        checks.dueRow("seats", Checks.row(x, 0), 1, 4, 0, 4, 3, 4, 3, 3, 5, 3, 2, 1);
        checks.due("come", x.come(0, 5, 1), 2);
        checks.due("of 4, 4 and 4 the greatest excess", x.come(0, 6, 1), 1);
        checks.due("of 4 and 4 the greatest excess", x.come(0, 7, 1), 2);
        checks.dueRow("seats", Checks.row(x, 0), 1, 4, 0, 4, 6, 5, 4, 1, 7, 5, 4, 1);
        checks.dueRow("numbers", Checks.numbers(x, 0), 14, 3, 7, 4, 14, 4, 5);
    }

    private static void comeRefused() {
        HeavyGuests x = new HeavyGuests();
        for (int stream : WRONG_STREAMS) {
            checks.due("come to " + stream, x.come(stream, 1, 1), HeavyGuests.NO_SUCH);
            checks.due("the stream is looked at first", x.come(stream, 0, 0), HeavyGuests.NO_SUCH);
        }
        for (int code : WRONG_CODES) {
            checks.due("come of " + code, x.come(0, code, 1), HeavyGuests.BAD_VALUE);
        }
        for (int times : new int[] {0, -1, 1000, Integer.MIN_VALUE, Integer.MAX_VALUE}) {
            checks.due("come " + times + " times", x.come(1, 1, times), HeavyGuests.BAD_VALUE);
        }
        checks.due("nothing is recorded", x.count(2), 0);
        checks.dueRow("nothing changes", Checks.numbers(x, 0), 0, 0, 0, 0, 0, 0, 0);
    }

    private static void comeTooMany() {
        HeavyGuests x = new HeavyGuests();
        for (int i = 0; i < 60; i++) {
            x.come(0, Checks.codeNumber(i), 2);
        }
        checks.due("60 unlike guests", x.stream(0, 2), 60);
        checks.due("the 61st", x.come(0, Checks.codeNumber(60), 1), HeavyGuests.TOO_MANY);
        checks.due("a wrong number comes ahead", x.come(0, Checks.codeNumber(60), 0), HeavyGuests.BAD_VALUE);
        checks.due("the other stream has room", x.come(1, Checks.codeNumber(60), 1), 0);
        int seat = x.wouldTake(0, 1);
        checks.due("one of the 60", x.come(0, 1, 1), seat);
        x.age(0);
        x.age(0);
        checks.due("who is not counted any more makes room", x.stream(0, 2), 0);
        checks.due("the 61st", x.come(0, Checks.codeNumber(60), 1) >= 0 ? 1 : 0, 1);

        HeavyGuests y = new HeavyGuests();
        for (int i = 0; i < 100; i++) {
            y.come(1, 5, 999);
        }
        checks.due("total", y.stream(1, 0), 99900);
        checks.due("100 more", y.come(1, 5, 100), HeavyGuests.TOO_MANY);
        checks.due("a wrong number comes ahead", y.come(1, 0, 100), HeavyGuests.BAD_VALUE);
        checks.due("a refused one is not recorded", y.count(2), 6);
        checks.due("99 more", y.come(1, 6, 99), 1);
        checks.due("total", y.stream(1, 0), 99999);
        checks.due("one more", y.come(1, 5, 1), HeavyGuests.TOO_MANY);
        checks.due("the other stream", y.come(0, 5, 999), 0);
    }

    private static void age() {
        HeavyGuests x = new HeavyGuests();
        x.seats(2);
        Checks.carryOut(x, "a*7;b*3;c*4;>a*9");
        checks.dueRow("before", Checks.row(x, 0), 1, 7, 0, 7, 3, 7, 3, 4);
        checks.due("age(0)", x.age(0), 7);
        checks.dueRow("each by itself", Checks.row(x, 0), 1, 3, 0, 3, 3, 3, 1, 2);
        checks.dueRow("true counts", Checks.tally(x, 0), 1, 3, 3, 2, 2, 1);
        checks.dueRow("numbers", Checks.numbers(x, 0), 7, 2, 3, 3, 6, 1, 1);
        checks.dueRow("the other stays", Checks.row(x, 1), 1, 9, 0, 9);
        checks.due("age(1)", x.age(1), 4);
        checks.due("age(1)", x.age(1), 2);
        checks.due("age(1)", x.age(1), 1);
        checks.due("age(1)", x.age(1), 0);
        checks.due("age(1), also without anything", x.age(1), 0);
        checks.dueRow("nothing is left", Checks.numbers(x, 1), 0, 0, 0, 0, 0, 0, 0);
        checks.due("each is a change", x.count(2), 6);
        for (int stream : WRONG_STREAMS) {
            checks.due("age(" + stream + ")", x.age(stream), HeavyGuests.NO_SUCH);
        }
    }

    private static void ageGivesUp() {
        HeavyGuests x = new HeavyGuests();
        Checks.carryOut(x, "z;y*2;x;w*5");
        checks.due("age", x.age(0), 4);
        checks.dueRow("those behind move up", Checks.row(x, 0), 25, 1, 0, 1, 23, 2, 0, 2);
        checks.dueRow("those with 0 are not counted", Checks.tally(x, 0), 23, 2, 25, 1);
        checks.due("taken next", x.come(0, 1, 1), 2);
        // Halving makes 5 and 4 alike: then the code decides.
        HeavyGuests y = new HeavyGuests();
        Checks.carryOut(y, "z*5;a*4;m*4;>z");
        checks.dueRow("true order before", Checks.tally(y, 0), 26, 5, 1, 4, 13, 4);
        y.age(0);
        checks.dueRow("true order by code", Checks.tally(y, 0), 1, 2, 13, 2, 26, 2);
        // A guest can keep its seat though it is not counted truly any more.
        HeavyGuests z = new HeavyGuests();
        z.seats(1);
        Checks.carryOut(z, "a*4;b");
        z.age(0);
        checks.dueRow("seat without a true count", Checks.row(z, 0), 2, 2, 2, 0);
        checks.due("takeovers are not halved", z.stream(0, 6), 1);
    }

    private static void join() {
        HeavyGuests x = new HeavyGuests();
        checks.due("join of nothing", x.join(), 0);
        checks.due("is a change", x.count(2), 1);
        Checks.carryOut(x, "a*5;b*2;>b*4;>c*5;>d*1");
        checks.due("join", x.join(), 4);
        checks.dueRow("by count, then by code", Checks.row(x, 0), 2, 6, 0, 6, 1, 5, 0, 5, 3, 5, 0, 5, 4, 1, 0, 1);
        checks.dueRow("true counts are added", Checks.tally(x, 0), 2, 6, 1, 5, 3, 5, 4, 1);
        checks.dueRow("numbers", Checks.numbers(x, 0), 17, 4, 4, 1, 17, 0, 0);
        checks.dueRow("the stream 1 begins anew", Checks.numbers(x, 1), 0, 0, 0, 0, 0, 0, 0);
        checks.due("its guests are gone", x.of(1, 3, 3), 0);
        checks.due("with as many seats", x.count(0), 4);
        checks.due("is a change", x.count(2), 3);
        checks.due("join again", x.join(), 4);
        checks.due("total", x.stream(0, 0), 17);
        x.undo();
        x.undo();
        checks.dueRow("undone for both", Checks.row(x, 1), 2, 4, 0, 4, 3, 5, 0, 5, 4, 1, 0, 1);
    }

    private static void joinWithGuestsWithoutSeats() {
        HeavyGuests x = new HeavyGuests();
        x.seats(2);
        Checks.carryOut(x, "a*5;b*3;c*2;>d*4;>a*6;>e*1");
        checks.dueRow("stream 0", Checks.row(x, 0), 1, 5, 0, 5, 3, 5, 3, 2);
        checks.dueRow("stream 1", Checks.row(x, 1), 5, 5, 4, 1, 1, 6, 0, 6);
        checks.due("join", x.join(), 2);
        // a 5 + 6; c 5 + the least of 1 (5), surely 2; e the least of 0 (5) + 5, surely 1.
        checks.dueRow("joined", Checks.row(x, 0), 1, 11, 0, 11, 3, 10, 8, 2);
        checks.dueRow("numbers", Checks.numbers(x, 0), 21, 2, 5, 10, 21, 8, 1);
        checks.dueRow("the stream 1 begins anew, its takeovers too", Checks.numbers(x, 1), 0, 0, 0, 0, 0, 0, 0);
        checks.dueRow("true counts", Checks.tally(x, 0), 1, 11, 4, 4, 2, 3, 3, 2, 5, 1);

        HeavyGuests y = new HeavyGuests();
        y.seats(2);
        Checks.carryOut(y, "a*5;b*3;>c*4");
        y.join();
        // Not all seats of the stream 1 are taken: nothing is added there. c: 3 + 4, surely 4.
        checks.dueRow("joined", Checks.row(y, 0), 3, 7, 3, 4, 1, 5, 0, 5);
    }

    private static void joinTwice() {
        HeavyGuests x = new HeavyGuests();
        Checks.carryOut(x, "a*9;b*8;>c*7;>d*6");
        checks.due("join", x.join(), 4);
        x.seats(2);
        Checks.carryOut(x, ">e*5");
        checks.due("join again", x.join(), 2);
        // Two seats were all taken by a and b; e can have come 8 times besides.
        checks.dueRow("nothing of the first time is left", Checks.row(x, 0), 5, 13, 8, 5, 1, 9, 0, 9);
        x.age(0);
        x.age(0);
        checks.due("join after ageing", x.join(), 2);
        checks.dueRow("seats", Checks.row(x, 0), 5, 3, 2, 1, 1, 2, 0, 2);
    }

    private static void joinOrder() {
        HeavyGuests x = new HeavyGuests();
        x.seats(1);
        Checks.carryOut(x, "c*3;>b*3");
        checks.due("join", x.join(), 1);
        checks.dueRow("alike but for the code", Checks.row(x, 0), 2, 6, 3, 3);
        HeavyGuests y = new HeavyGuests();
        y.seats(2);
        Checks.carryOut(y, "z*2;y*4;>z*2;>a*1;>b*3");
        // Of stream 1: z took nothing, b took the seat of a (4, 1).
        checks.dueRow("stream 1", Checks.row(y, 1), 26, 2, 0, 2, 2, 4, 1, 3);
        y.join();
        // y 4 + 2 surely 4; b 2 + 4 surely 3; z 4 surely 4: y has less excess than b.
        checks.dueRow("the least excess first", Checks.row(y, 0), 25, 6, 2, 4, 2, 6, 3, 3);

        HeavyGuests z = new HeavyGuests();
        z.seats(12);
        for (int i = 0; i < 12; i++) {
            z.come(0, Checks.codeNumber(i), i + 1);
            z.come(1, Checks.codeNumber(12 + i), i + 1);
        }
        checks.due("24 guests for 12 seats", z.join(), 12);
        // The least of the other stream is 1, so each gains 1 on either side.
        checks.dueRow("the twelve heaviest", Checks.heaviest(z, 0), 12, 24, 11, 23, 10, 22, 9, 21, 8, 20, 7, 19);
        checks.due("seat 0", z.seat(0, 0, 0), 12);
        checks.due("seat 1", z.seat(0, 1, 0), 24);
        checks.due("seat 11", z.seat(0, 11, 0), 19);
        checks.due("seat 11's count", z.seat(0, 11, 1), 8);
    }

    private static void joinTooMany() {
        HeavyGuests x = new HeavyGuests();
        for (int i = 0; i < 40; i++) {
            x.come(0, Checks.codeNumber(i), 1);
            x.come(1, Checks.codeNumber(i + 20), 1);
        }
        checks.due("60 unlike ones", x.join() >= 0 ? 1 : 0, 1);
        checks.due("60 unlike ones", x.stream(0, 2), 60);
        x.come(1, Checks.codeNumber(60), 1);
        int history = x.count(2);
        checks.due("61 unlike ones", x.join(), HeavyGuests.TOO_MANY);
        checks.due("nothing is recorded", x.count(2), history);
        checks.due("nothing changes", x.stream(1, 0), 1);
        x.undo();
        x.come(1, Checks.codeNumber(59), 1);
        checks.due("60 again", x.join() >= 0 ? 1 : 0, 1);

        HeavyGuests y = new HeavyGuests();
        for (int i = 0; i < 100; i++) {
            y.come(i % 2, 7, 999);
        }
        y.come(1, 7, 100);
        checks.due("100000 together", y.join(), HeavyGuests.TOO_MANY);
        y.undo();
        y.come(1, 7, 99);
        checks.due("99999 together", y.join(), 1);
        checks.due("total", y.stream(0, 0), 99999);
        checks.due("count", y.seat(0, 0, 1), 99999);
    }
}
