import java.util.ArrayList;
import java.util.Arrays;
import java.util.List;

/** Promises 1 to 5 and their terms: a test for each sentence that names a boundary, with its words. */
public final class BoundsOfChangesTest {
    private static final int MOST_SEATS = 12;

    private static final Checks checks = new Checks();
    private static final Refusals refusals = new Refusals(checks);

    public static void main(String[] args) {
        codes();
        twoStreamsWithoutGuests();
        fourSeatsAtFirst();
        seatsInRange();
        seatsOutOfRange();
        seatsFewerThen();
        seatsGivenUpInOrder();
        seatsIsAChange();
        comeToAStream();
        comeWithACode();
        comeSoManyTimes();
        comeSixtyUnlike();
        comeToTheGreatestTotal();
        comeErrorsInOrder();
        comeOwnSeat();
        comeNextSeat();
        comeTakesOver();
        ageAStream();
        ageHalvesEachByItself();
        ageExcessAtItsCount();
        ageGivesSeatsUp();
        ageForgetsGuests();
        joinWithoutGuests();
        joinSixtyUnlike();
        joinGreatestTotal();
        joinAsManyAsSeats();
        joinAlike();
        joinAllSeatsTaken();
        joinBeginsAnew();
        seatsStayGivenUp();
        ageLeavesNothingBehind();
        joinLeavesNothingBehind();
        undoLeavesNothingBehind();
        checks.finish();
    }

    private static HeavyGuests withTotal(int stream, int total) {
        HeavyGuests x = Refusals.ready();
        for (int left = total; left > 0; left -= 999) {
            x.come(stream, 1, Math.min(left, 999));
        }
        return x;
    }

    private static HeavyGuests withUnlike(int stream, int from, int number) {
        HeavyGuests x = Refusals.ready();
        comeUnlike(x, stream, from, number);
        return x;
    }

    private static void comeUnlike(HeavyGuests x, int stream, int from, int number) {
        for (int i = from; i < from + number; i++) {
            x.come(stream, Checks.codeNumber(i), 1);
        }
    }

    /** Gives the last seat of SEATS a count and an excess: a helper comes first, the guest takes its seat over. */
    private static void takeSeat(HeavyGuests x, int stream, int guest, int count, int excess) {
        x.seats(x.stream(stream, 1) + 1);
        if (excess > 0) {
            x.come(stream, 26 * 27 + guest, excess);
        }
        x.come(stream, guest, count - excess);
    }

    /** "1 to 4 letters from a to z", "codes are 1 to 531440, without the digit 0". */
    private static void codes() {
        int[] letters = new int[27 * 27 * 27 * 27 + 30];
        for (int first = 1; first <= 26; first++) {
            letters[first] = 1;
            for (int second = 1; second <= 26; second++) {
                letters[27 * first + second] = 2;
                for (int third = 1; third <= 26; third++) {
                    letters[27 * 27 * first + 27 * second + third] = 3;
                    for (int fourth = 1; fourth <= 26; fourth++) {
                        letters[27 * 27 * 27 * first + 27 * 27 * second + 27 * third + fourth] = 4;
                    }
                }
            }
        }
        HeavyGuests x = null;
        for (int code = 0; code < letters.length; code++) {
            x = code % 500 == 0 ? new HeavyGuests() : x;
            checks.due("letters of " + code, x.of(0, code, 4), letters[code] == 0 ? HeavyGuests.BAD_VALUE : letters[code]);
        }
    }

    /** "Creates two streams without guests"; "a total (0 at first)". */
    private static void twoStreamsWithoutGuests() {
        HeavyGuests x = new HeavyGuests();
        for (int stream = 0; stream < 2; stream++) {
            checks.dueRow("new: numbers", Checks.numbers(x, stream), 0, 0, 0, 0, 0, 0, 0);
            checks.due("new: seat", x.seat(stream, 0, 0), HeavyGuests.NO_SUCH);
            checks.due("new: heaviest", x.heaviest(stream, 0), HeavyGuests.NO_SUCH);
            checks.due("new: truly", x.truly(stream, 0), HeavyGuests.NO_SUCH);
            checks.due("new: seat of a", x.of(stream, 1, 0), HeavyGuests.NONE);
            checks.due("new: most of a", x.of(stream, 1, 1), 0);
            checks.due("new: least of a", x.of(stream, 1, 2), 0);
            checks.due("new: truly a", x.of(stream, 1, 3), 0);
            checks.due("new: sureOrder", x.sureOrder(stream), 0);
            checks.due("new: wouldTake", x.wouldTake(stream, 1), 0);
            checks.due("new: doubt", x.doubt(stream, 1), 0);
            for (int what = 0; what < 3; what++) {
                checks.due("new: above", x.above(stream, 0, what), 0);
            }
        }
        checks.due("new: pad", x.count(1), 0);
        checks.due("new: history", x.count(2), 0);
        checks.due("new: wipe", x.wipe(), 0);
    }

    /** "4 at first, for both". */
    private static void fourSeatsAtFirst() {
        for (int stream = 0; stream < 2; stream++) {
            HeavyGuests x = new HeavyGuests();
            checks.due("SEATS at first", x.count(0), 4);
            for (int guest = 1; guest <= 4; guest++) {
                checks.due("not all are taken", x.stream(stream, 3), 0);
                checks.due("seat of guest " + guest, x.come(stream, guest, 10 - guest), guest - 1);
            }
            checks.due("all four are taken", x.stream(stream, 3), 6);
            checks.due("the fifth guest takes over", x.come(stream, 5, 1), 3);
            checks.due("taken over", x.stream(stream, 6), 1);
        }
    }

    /** "SEATS seats (1 to 12 ..)", "Returns how many there were". */
    private static void seatsInRange() {
        for (int seats = 1; seats <= MOST_SEATS; seats++) {
            HeavyGuests x = new HeavyGuests();
            checks.due("seats(" + seats + ")", x.seats(seats), 4);
            checks.due("SEATS", x.count(0), seats);
            for (int stream = 0; stream < 2; stream++) {
                for (int i = 0; i < seats; i++) {
                    checks.due("least of " + i + " of " + seats, x.stream(stream, 3), 0);
                    checks.due("next seat", x.come(stream, Checks.codeNumber(i), 50 - i), i);
                }
                checks.due("least of " + seats, x.stream(stream, 3), 51 - seats);
                checks.due("none is left", x.come(stream, 26, 1), seats - 1);
                checks.due("taken", x.stream(stream, 1), seats);
                checks.due("taken over", x.stream(stream, 6), 1);
            }
            checks.due("how many there were", x.seats(seats), seats);
        }
    }

    /** "BAD_VALUE if seats is out of range". */
    private static void seatsOutOfRange() {
        for (int seats : Refusals.outside(1, MOST_SEATS)) {
            refusals.always("seats(" + seats + ")", x -> x.seats(seats), HeavyGuests.BAD_VALUE);
        }
    }

    /** "If there are fewer then, those seats are given up ..": not one too many, not one too few, for both. */
    private static void seatsFewerThen() {
        for (int taken = 0; taken <= MOST_SEATS; taken++) {
            for (int seats = 1; seats <= MOST_SEATS; seats++) {
                HeavyGuests x = new HeavyGuests();
                x.seats(MOST_SEATS);
                for (int i = 1; i <= taken; i++) {
                    x.come(0, i, 20 + i);
                    x.come(1, i, 40 - i);
                }
                x.seats(seats);
                int kept = Math.min(taken, seats);
                int[] rising = new int[4 * kept];
                int[] falling = new int[4 * kept];
                for (int i = 0; i < kept; i++) {
                    put(rising, i, taken - kept + i + 1, 20 + taken - kept + i + 1);
                    put(falling, i, i + 1, 39 - i);
                }
                String told = taken + " taken, seats(" + seats + "): stream ";
                checks.dueRow(told + 0, Checks.row(x, 0), rising);
                checks.dueRow(told + 1, Checks.row(x, 1), falling);
                checks.due(told + "0: true counts stay", x.stream(0, 2), taken);
                checks.due(told + "0: no takeovers", x.stream(0, 6), 0);
                checks.due(told + "0: least count", x.stream(0, 3), kept == seats ? 21 + taken - kept : 0);
                checks.due(told + "0: next", x.wouldTake(0, 26), kept == seats ? 0 : kept);
            }
        }
    }

    private static void put(int[] row, int seat, int guest, int count) {
        row[4 * seat] = guest;
        row[4 * seat + 1] = count;
        row[4 * seat + 3] = count;
    }

    /** ".. that would be taken over first, one after the other". */
    private static void seatsGivenUpInOrder() {
        int[][] rows = {{1, 7, 0, 7}, {2, 6, 2, 4}, {3, 6, 2, 4}, {4, 6, 1, 5}, {5, 7, 1, 6}};
        int[][] left = {{}, {0}, {0, 4}, {0, 3, 4}, {0, 2, 3, 4}, {0, 1, 2, 3, 4}};
        for (int seats = 5; seats >= 1; seats--) {
            for (int stream = 0; stream < 2; stream++) {
                HeavyGuests x = new HeavyGuests();
                x.seats(1);
                // a 7; b 6 with 2; c 6 with 2; d 6 with 1; e 7 with 1: b goes first, then c, d, e, a.
                takeSeat(x, stream, 1, 7, 0);
                takeSeat(x, stream, 2, 6, 2);
                takeSeat(x, stream, 3, 6, 2);
                takeSeat(x, stream, 4, 6, 1);
                takeSeat(x, stream, 5, 7, 1);
                x.seats(seats);
                int[] kept = Arrays.stream(left[seats]).flatMap(seat -> Arrays.stream(rows[seat])).toArray();
                checks.dueRow("kept of 5: " + seats, Checks.row(x, stream), kept);
                checks.due("the total stays", x.stream(stream, 0), 32);
            }
        }
    }

    private static int[] guests(HeavyGuests x, int stream) {
        int[] guests = new int[x.stream(stream, 1)];
        for (int seat = 0; seat < guests.length; seat++) {
            guests[seat] = x.seat(stream, seat, 0);
        }
        return guests;
    }

    /** "This is a change": also if there are as many as before. */
    private static void seatsIsAChange() {
        HeavyGuests x = new HeavyGuests();
        x.seats(4);
        checks.due("as many as before", x.count(2), 1);
        x.seats(12);
        x.seats(1);
        checks.due("undo", x.undo(), 2);
        checks.due("SEATS", x.count(0), 12);
    }

    /** come: "stream: 0 or 1"; "NO_SUCH if there is no such stream". */
    private static void comeToAStream() {
        for (int stream : Refusals.outside(0, 1)) {
            refusals.always("come(" + stream + ", 1, 1)", x -> x.come(stream, 1, 1), HeavyGuests.NO_SUCH);
        }
        HeavyGuests x = new HeavyGuests();
        checks.due("come(0, 1, 1)", x.come(0, 1, 1), 0);
        checks.due("not to the other", x.stream(1, 0), 0);
        checks.due("come(1, 1, 2)", x.come(1, 1, 2), 0);
        checks.due("not to the other", x.stream(0, 0), 1);
    }

    /** come: "BAD_VALUE if guest is no code". */
    private static void comeWithACode() {
        for (int guest : Refusals.NO_CODES) {
            refusals.always("come(0, " + guest + ", 1)", x -> x.come(0, guest, 1), HeavyGuests.BAD_VALUE);
            refusals.always("come(1, " + guest + ", 1)", x -> x.come(1, guest, 1), HeavyGuests.BAD_VALUE);
        }
        for (int guest : new int[] {1, 26, 28, 27 * 26 + 26, 757, 19682, 20440, 531440}) {
            HeavyGuests x = new HeavyGuests();
            checks.due("come(0, " + guest + ", 1)", x.come(0, guest, 1), 0);
            checks.due("its code", x.seat(0, 0, 0), guest);
        }
    }

    /** come: "times: 1 to 999"; "or times is out of range". */
    private static void comeSoManyTimes() {
        for (int times : Refusals.outside(1, 999)) {
            refusals.always("come(0, 1, " + times + ")", x -> x.come(0, 1, times), HeavyGuests.BAD_VALUE);
            refusals.always("come(1, 2, " + times + ")", x -> x.come(1, 2, times), HeavyGuests.BAD_VALUE);
        }
        for (int times : new int[] {1, 2, 998, 999}) {
            HeavyGuests x = new HeavyGuests();
            checks.due("come(1, 1, " + times + ")", x.come(1, 1, times), 0);
            checks.due("its count", x.seat(1, 0, 1), times);
            checks.due("its true count", x.of(1, 1, 3), times);
            checks.due("the total", x.stream(1, 0), times);
        }
    }

    /** "TOO_MANY if 60 unlike guests came to the stream, and this one did not"; "up to 60 unlike ones in each stream". */
    private static void comeSixtyUnlike() {
        for (int stream = 0; stream < 2; stream++) {
            int to = stream;
            HeavyGuests x = withUnlike(to, 0, 59);
            checks.due("59 unlike ones", x.stream(to, 2), 59);
            checks.due("the 60th", x.come(to, 531440, 1), x.of(to, 531440, 0));
            checks.due("60 unlike ones", x.stream(to, 2), 60);
            for (int guest : new int[] {Checks.codeNumber(60), 531439}) {
                refusals.in("60 unlike ones", () -> withUnlike(to, 0, 60), "come(" + to + ", " + guest + ", 1)",
                        y -> y.come(to, guest, 1), HeavyGuests.TOO_MANY);
            }
            checks.due("the last one of the 60", x.come(to, 531440, 1), x.of(to, 531440, 0));
            checks.due("the first one of the 60", x.come(to, 1, 1), x.of(to, 1, 0));
            checks.due("is counted", x.of(to, 1, 3), 2);
            checks.due("one more to the other", x.come(1 - to, 531439, 1), 0);
        }
    }

    /** "or if the total would be above 99999". */
    private static void comeToTheGreatestTotal() {
        for (int stream = 0; stream < 2; stream++) {
            int to = stream;
            for (int times : new int[] {1, 2, 998, 999}) {
                HeavyGuests x = withTotal(to, 99999 - times);
                checks.due("99999 by " + times, x.come(to, 1, times), 0);
                checks.due("the total", x.stream(to, 0), 99999);
                checks.due("the other has room", x.come(1 - to, 1, 999), 0);
                refusals.in("100000", () -> withTotal(to, 100000 - times), "come(" + to + ", 1, " + times + ")",
                        y -> y.come(to, 1, times), HeavyGuests.TOO_MANY);
                refusals.in("100000", () -> withTotal(to, 100000 - times), "come(" + to + ", 2, " + times + ")",
                        y -> y.come(to, 2, times), HeavyGuests.TOO_MANY);
            }
        }
    }

    /** come: "names its errors in the order in which they are checked, and the first one that applies is returned". */
    private static void comeErrorsInOrder() {
        refusals.always("come(2, 0, 0)", x -> x.come(2, 0, 0), HeavyGuests.NO_SUCH);
        refusals.always("come(-1, 27, 1000)", x -> x.come(-1, 27, 1000), HeavyGuests.NO_SUCH);
        for (int stream = 0; stream < 2; stream++) {
            int to = stream;
            refusals.in("full", () -> Refusals.full(to), "a new one", x -> x.come(to, 531440, 1), HeavyGuests.TOO_MANY);
            refusals.in("full", () -> Refusals.full(to), "one who came", x -> x.come(to, 1, 1), HeavyGuests.TOO_MANY);
            refusals.in("full", () -> Refusals.full(to), "no code", x -> x.come(to, 531441, 1), HeavyGuests.BAD_VALUE);
            refusals.in("full", () -> Refusals.full(to), "too often", x -> x.come(to, 531440, 1000), HeavyGuests.BAD_VALUE);
        }
    }

    /** "If the guest has a seat, its count becomes greater by that": also if all are taken, and its count is the least. */
    private static void comeOwnSeat() {
        HeavyGuests x = new HeavyGuests();
        x.seats(1);
        takeSeat(x, 1, 1, 9, 0);
        takeSeat(x, 1, 2, 5, 2);
        checks.due("its own", x.come(1, 2, 3), 1);
        checks.dueRow("the excess stays", Checks.row(x, 1), 1, 9, 0, 9, 2, 8, 2, 6);
        checks.due("takeovers", x.stream(1, 6), 1);
        checks.due("SEATS of one", x.seats(1), 2);
        checks.due("the only seat", x.come(1, 1, 1), 0);
        checks.dueRow("its own", Checks.row(x, 1), 1, 10, 0, 10);
    }

    /** "Otherwise, if not all seats are taken, the next one is taken .. with that as its count, and an excess of 0". */
    private static void comeNextSeat() {
        HeavyGuests x = new HeavyGuests();
        x.seats(2);
        x.come(0, 1, 5);
        checks.due("the last free seat", x.come(0, 2, 9), 1);
        checks.dueRow("an excess of 0", Checks.row(x, 0), 1, 5, 0, 5, 2, 9, 0, 9);
        checks.due("none is free", x.come(0, 3, 1), 0);
        checks.dueRow("the excess is the count that it had", Checks.row(x, 0), 3, 6, 5, 1, 2, 9, 0, 9);
        x.seats(3);
        checks.due("one is free again", x.come(0, 1, 1), 2);
        checks.dueRow("an excess of 0 again", Checks.row(x, 0), 3, 6, 5, 1, 2, 9, 0, 9, 1, 1, 0, 6);
    }

    /** "the seat with the least count, of several the one with the greatest excess, of these the one with the lowest number". */
    private static void comeTakesOver() {
        int[][][] rows = {
            // count and excess of each seat, then the seat that is taken over
            {{5, 0}, {4, 0}, {5, 0}, {1}}, {{5, 1}, {4, 0}, {6, 3}, {1}}, {{4, 0}, {4, 0}, {4, 0}, {0}},
            {{5, 0}, {4, 0}, {4, 0}, {1}}, {{4, 0}, {4, 1}, {4, 0}, {1}}, {{4, 0}, {4, 0}, {4, 1}, {2}},
            {{4, 0}, {4, 2}, {4, 2}, {1}}, {{4, 0}, {4, 1}, {4, 2}, {2}}, {{4, 0}, {4, 2}, {4, 1}, {1}},
            {{4, 0}, {5, 3}, {4, 1}, {2}}, {{3, 0}, {4, 2}, {4, 2}, {0}}, {{1, 0}, {1, 0}, {2, 0}, {0}}};
        for (int[][] row : rows) {
            HeavyGuests x = new HeavyGuests();
            x.seats(1);
            for (int seat = 0; seat < 3; seat++) {
                // The guests' codes fall, so that none is chosen by its code.
                takeSeat(x, 0, 9 - seat, row[seat][0], row[seat][1]);
                checks.due("as was meant", x.seat(0, seat, 2), row[seat][1]);
            }
            int seat = row[3][0];
            checks.due("would be taken over", x.wouldTake(0, 20), seat);
            checks.due("is taken over", x.come(0, 20, 2), seat);
            checks.due("its guest", x.seat(0, seat, 0), 20);
            checks.due("its excess", x.seat(0, seat, 2), row[seat][0]);
            checks.due("its count", x.seat(0, seat, 1), row[seat][0] + 2);
            checks.due("the others stay", x.stream(0, 4), row[0][0] + row[1][0] + row[2][0] + 2);
            checks.due("who was there has none", x.of(0, 9 - seat, 0), HeavyGuests.NONE);
        }
    }

    /** age: "NO_SUCH if there is no such stream"; "This is a change", also of a stream without guests. */
    private static void ageAStream() {
        for (int stream : Refusals.outside(0, 1)) {
            refusals.always("age(" + stream + ")", x -> x.age(stream), HeavyGuests.NO_SUCH);
        }
        for (int stream = 0; stream < 2; stream++) {
            HeavyGuests x = new HeavyGuests();
            checks.due("age without guests", x.age(stream), 0);
            checks.due("is a change", x.count(2), 1);
            x.come(0, 1, 8);
            x.come(1, 1, 8);
            checks.due("age(" + stream + ")", x.age(stream), 4);
            checks.due("the other stays", x.stream(1 - stream, 0), 8);
            checks.due("the other's seats stay", x.seat(1 - stream, 0, 1), 8);
            checks.due("the other's true counts stay", x.of(1 - stream, 1, 3), 8);
        }
    }

    /** "the total, all counts, excesses and true counts are halved (each by itself)"; "rounded down". */
    private static void ageHalvesEachByItself() {
        for (int count : new int[] {1, 2, 3, 4, 5, 998, 999}) {
            HeavyGuests x = new HeavyGuests();
            x.come(1, 1, count);
            x.come(1, 2, count);
            checks.due("the total of twice " + count, x.age(1), count);
            checks.due("the count of " + count, x.of(1, 1, 1), count / 2);
            checks.due("the true count of " + count, x.of(1, 2, 3), count / 2);
        }
        HeavyGuests x = withTotal(0, 99999);
        checks.due("the greatest total", x.age(0), 49999);
        checks.due("the greatest count", x.seat(0, 0, 1), 49999);
        checks.due("the greatest true count", x.seat(0, 0, 3), 49999);
        HeavyGuests y = new HeavyGuests();
        y.seats(1);
        takeSeat(y, 0, 1, 9, 5);
        takeSeat(y, 0, 2, 8, 1);
        takeSeat(y, 0, 3, 7, 0);
        y.age(0);
        checks.dueRow("excesses", Checks.row(y, 0), 1, 4, 2, 2, 2, 4, 0, 3, 3, 3, 0, 3);
    }

    /** "an excess never is above its count": it may be as great. */
    private static void ageExcessAtItsCount() {
        HeavyGuests x = new HeavyGuests();
        x.seats(1);
        takeSeat(x, 0, 1, 3, 2);
        x.age(0);
        checks.dueRow("as great", Checks.row(x, 0), 1, 1, 1, 0);
        checks.due("the least of it", x.of(0, 1, 2), 0);
        checks.due("its doubt", x.doubt(0, 1), 1);
        x.come(0, 1, 1);
        checks.dueRow("comes again", Checks.row(x, 0), 1, 2, 1, 1);
        x.age(0);
        x.age(0);
        checks.due("goes", x.stream(0, 1), 0);
        checks.due("no excess is left", x.stream(0, 5), 0);
    }

    /** "Seats whose count is 0 then are given up: those behind them move up." */
    private static void ageGivesSeatsUp() {
        for (int given = 0; given < 16; given++) {
            HeavyGuests x = new HeavyGuests();
            int left = 0;
            int[] due = new int[4];
            for (int seat = 0; seat < 4; seat++) {
                boolean goes = (given >> seat & 1) == 1;
                x.come(1, 9 - seat, goes ? 1 : 2);
                if (!goes) {
                    due[left++] = 9 - seat;
                }
            }
            x.age(1);
            checks.dueRow("seats left of " + given, guests(x, 1), Arrays.copyOf(due, left));
            checks.due("all of them are taken only if none went", x.stream(1, 3), left == 4 ? 1 : 0);
            checks.due("true counts left", x.stream(1, 2), left);
            checks.due("the next one", x.come(1, 20, 1), left == 4 ? 0 : left);
        }
    }

    /** "Guests whose true count is 0 are not counted any more." */
    private static void ageForgetsGuests() {
        HeavyGuests x = withUnlike(0, 0, 60);
        x.come(0, 5, 1);
        checks.due("age", x.age(0), 30);
        checks.due("those with 1 are not counted any more", x.stream(0, 2), 1);
        checks.due("that with 2 is", x.of(0, 5, 3), 1);
        checks.due("it is the only one", x.truly(0, 0), 5);
        checks.due("there is no other", x.truly(0, 1), HeavyGuests.NO_SUCH);
        comeUnlike(x, 0, 30, 58);
        checks.due("59 of them", x.stream(0, 2), 59);
        checks.due("the 60th, who was forgotten", x.come(0, 1, 1) >= 0 ? 1 : 0, 1);
        checks.due("the 61st, who was forgotten", x.come(0, 2, 1), HeavyGuests.TOO_MANY);
    }

    /** join: "for each guest with a seat in one or the other stream": also if there is none in one or both. */
    private static void joinWithoutGuests() {
        HeavyGuests x = new HeavyGuests();
        checks.due("none in both", x.join(), 0);
        checks.due("is a change", x.count(2), 1);
        checks.dueRow("nothing", Checks.numbers(x, 0), 0, 0, 0, 0, 0, 0, 0);
        HeavyGuests y = new HeavyGuests();
        Checks.carryOut(y, "b*3;a*4;d*3;c*5");
        checks.due("none in the stream 1", y.join(), 4);
        checks.dueRow("by their counts", Checks.row(y, 0), 3, 5, 0, 5, 1, 4, 0, 4, 2, 3, 0, 3, 4, 3, 0, 3);
        HeavyGuests z = new HeavyGuests();
        Checks.carryOut(z, ">b*3;>a*4;>d*3;>c*5");
        checks.due("none in the stream 0", z.join(), 4);
        checks.dueRow("by their counts", Checks.row(z, 0), 3, 5, 0, 5, 1, 4, 0, 4, 2, 3, 0, 3, 4, 3, 0, 3);
        checks.dueRow("their numbers", Checks.numbers(z, 0), 15, 4, 4, 3, 15, 0, 0);
        checks.due("none are left", z.stream(1, 1), 0);
    }

    /** join: "TOO_MANY if more than 60 unlike guests came to both". */
    private static void joinSixtyUnlike() {
        // How many came to the stream 0, from which one on to the stream 1, and how many there.
        int[][] justSixty = {{60, 0, 0}, {0, 0, 60}, {59, 59, 1}, {1, 1, 59}, {30, 30, 30}, {40, 20, 40}, {60, 0, 60},
            {60, 59, 1}};
        for (int[] row : justSixty) {
            HeavyGuests x = unlikeInBoth(row[0], row[1], row[2]);
            checks.due("60 unlike ones", x.join(), 4);
            checks.due("60 are counted", x.stream(0, 2), 60);
            checks.due("the total", x.stream(0, 0), row[0] + row[2]);
        }
        int[][] oneMore = {{60, 60, 1}, {1, 1, 60}, {30, 30, 31}, {31, 31, 30}, {40, 21, 40}, {60, 1, 60}};
        for (int[] row : oneMore) {
            refusals.in(row[0] + " and " + row[2], () -> unlikeInBoth(row[0], row[1], row[2]), "join()", HeavyGuests::join,
                    HeavyGuests.TOO_MANY);
        }
        HeavyGuests x = unlikeInBoth(60, 60, 1);
        x.age(1);
        checks.due("one who is not counted any more", x.join(), 4);
    }

    private static HeavyGuests unlikeInBoth(int inZero, int fromInOne, int inOne) {
        HeavyGuests x = withUnlike(0, 0, inZero);
        comeUnlike(x, 1, fromInOne, inOne);
        return x;
    }

    /** join: "or both totals together are above 99999". */
    private static void joinGreatestTotal() {
        for (int inZero : new int[] {0, 1, 50000, 99998, 99999}) {
            HeavyGuests x = totals(inZero, 99999 - inZero);
            checks.due("99999 together", x.join(), inZero == 0 || inZero == 99999 ? 1 : 2);
            checks.due("the total", x.stream(0, 0), 99999);
            checks.due("the counts", x.stream(0, 4), 99999);
            checks.due("a full stream", x.come(0, 1, 1), HeavyGuests.TOO_MANY);
        }
        for (int inZero : new int[] {1, 50000, 99999}) {
            refusals.in("100000 together", () -> totals(inZero, 100000 - inZero), "join()", HeavyGuests::join,
                    HeavyGuests.TOO_MANY);
        }
        HeavyGuests x = totals(99999, 99999);
        checks.due("both are full", x.join(), HeavyGuests.TOO_MANY);
    }

    private static HeavyGuests totals(int inZero, int inOne) {
        HeavyGuests x = withTotal(0, inZero);
        for (int left = inOne; left > 0; left -= 999) {
            x.come(1, 2, Math.min(left, 999));
        }
        return x;
    }

    /** join: "as many as SEATS tells, in this order"; "Returns how many seats are taken then". */
    private static void joinAsManyAsSeats() {
        for (int seats = 1; seats <= MOST_SEATS; seats++) {
            for (int shared = 0; shared <= seats; shared++) {
                HeavyGuests x = new HeavyGuests();
                x.seats(seats);
                for (int i = 0; i < seats; i++) {
                    x.come(0, i + 1, 100 + i);
                    x.come(1, i + 1 + seats - shared, 100 + seats + i);
                }
                String told = seats + " seats, " + shared + " guests in both";
                checks.due(told, x.join(), seats);
                checks.due(told + ": taken", x.stream(0, 1), seats);
                checks.due(told + ": unlike", x.stream(0, 2), 2 * seats - shared);
                checks.dueRow(told, guests(x, 0), heaviestOfBoth(seats, shared));
            }
        }
        HeavyGuests x = new HeavyGuests();
        x.seats(3);
        Checks.carryOut(x, "a*5;b*4;>c*3");
        checks.due("just as many guests as seats", x.join(), 3);
        checks.due("the last one", x.seat(0, 2, 0), 3);
        x.seats(2);
        Checks.carryOut(x, ">c*9");
        checks.due("one more than seats", x.join(), 2);
        checks.dueRow("the last one goes", guests(x, 0), 3, 1);
        HeavyGuests y = new HeavyGuests();
        Checks.carryOut(y, "a*5;>b*4");
        checks.due("fewer than seats", y.join(), 2);
    }

    /** The heaviest of those who came above, found by sorting counts and excesses that are worked out for each. */
    private static int[] heaviestOfBoth(int seats, int shared) {
        List<int[]> guests = new ArrayList<>();
        for (int guest = 1; guest <= 2 * seats - shared; guest++) {
            int inOne = guest - seats + shared - 1;
            boolean hasSeatInZero = guest <= seats;
            boolean hasSeatInOne = inOne >= 0;
            int count = (hasSeatInZero ? 99 + guest : 100) + (hasSeatInOne ? 100 + seats + inOne : 100 + seats);
            int excess = (hasSeatInZero ? 0 : 100) + (hasSeatInOne ? 0 : 100 + seats);
            guests.add(new int[] {-count, excess, guest});
        }
        guests.sort(Arrays::compare);
        return guests.stream().mapToInt(guest -> guest[2]).limit(seats).toArray();
    }

    /** join: "the greatest new counts, of several those with the least new excess, of these those with the least code". */
    private static void joinAlike() {
        HeavyGuests x = new HeavyGuests();
        x.seats(1);
        // The stream 0: d 6 with 2, b 7 with 2, a 6 with 1, c 6 with 2, e 6 with 1.
        takeSeat(x, 0, 4, 6, 2);
        takeSeat(x, 0, 2, 7, 2);
        takeSeat(x, 0, 1, 6, 1);
        takeSeat(x, 0, 3, 6, 2);
        takeSeat(x, 0, 5, 6, 1);
        checks.due("join", x.join(), 5);
        checks.dueRow("in their order", guests(x, 0), 2, 1, 5, 3, 4);
        int[][][] rows = {
            // count and excess of d and c in the stream 0, of b and a in the stream 1, then the two that are kept
            {{5, 0}, {5, 0}, {5, 0}, {5, 0}, {1, 2}}, {{5, 0}, {5, 1}, {5, 0}, {5, 2}, {2, 4}},
            {{5, 3}, {6, 4}, {5, 0}, {5, 0}, {3, 1}}, {{5, 1}, {5, 1}, {5, 1}, {5, 0}, {1, 2}},
            {{5, 0}, {5, 0}, {5, 1}, {5, 1}, {3, 4}}, {{6, 5}, {5, 0}, {6, 4}, {5, 0}, {2, 4}}};
        for (int[][] row : rows) {
            HeavyGuests y = new HeavyGuests();
            takeSeat(y, 0, 4, row[0][0], row[0][1]);
            takeSeat(y, 1, 2, row[2][0], row[2][1]);
            takeSeat(y, 0, 3, row[1][0], row[1][1]);
            takeSeat(y, 1, 1, row[3][0], row[3][1]);
            checks.due("four guests for two seats", y.join(), 2);
            checks.dueRow("kept of " + Arrays.deepToString(row), guests(y, 0), row[4]);
        }
        HeavyGuests z = new HeavyGuests();
        z.seats(3);
        // b, c and z come to the stream 0, a, c and y to the stream 1; all seats are taken in both.
        Checks.carryOut(z, "z*2;b*3;c*2;>y*2;>a*3;>c*3");
        checks.due("join", z.join(), 3);
        // a and b: 3 + 2 with 2; c: 2 + 3 with 0; y and z: 2 + 2 with 2.
        checks.dueRow("in their order", Checks.row(z, 0), 3, 5, 0, 5, 1, 5, 2, 3, 2, 5, 2, 3);
    }

    /** "without a seat the least count of all seats, if all are taken, otherwise 0", for both streams that are joined. */
    private static void joinAllSeatsTaken() {
        for (int inZero = 0; inZero <= 3; inZero++) {
            for (int inOne = 0; inOne <= 3; inOne++) {
                HeavyGuests x = new HeavyGuests();
                x.seats(3);
                for (int i = 0; i < inZero; i++) {
                    x.come(0, 1 + i, 50 - i);
                }
                for (int i = 0; i < inOne; i++) {
                    x.come(1, 11 + i, 40 - i);
                }
                x.join();
                int fromZero = inZero == 3 ? 48 : 0;
                int fromOne = inOne == 3 ? 38 : 0;
                String told = inZero + " and " + inOne + " of 3 seats: ";
                if (inZero > 0) {
                    checks.due(told + "most of a", x.of(0, 1, 1), 50 + fromOne);
                    checks.due(told + "least of a", x.of(0, 1, 2), 50);
                }
                if (inOne > 0 && inZero < 3) {
                    checks.due(told + "most of k", x.of(0, 11, 1), 40 + fromZero);
                    checks.due(told + "least of k", x.of(0, 11, 2), 40);
                }
            }
        }
    }

    /** "The stream 1 begins anew, without guests, and with the total 0." */
    private static void joinBeginsAnew() {
        HeavyGuests x = Refusals.inUse();
        x.join();
        checks.dueRow("numbers", Checks.numbers(x, 1), 0, 0, 0, 0, 0, 0, 0);
        checks.due("no seat", x.seat(1, 0, 0), HeavyGuests.NO_SUCH);
        checks.due("no heaviest", x.heaviest(1, 0), HeavyGuests.NO_SUCH);
        checks.due("no true count", x.truly(1, 0), HeavyGuests.NO_SUCH);
        checks.due("e had a seat", x.of(1, 5, 0), HeavyGuests.NONE);
        checks.due("e came", x.of(1, 5, 3), 0);
        checks.due("SEATS stay", x.count(0), 3);
        checks.due("the first seat", x.come(1, 5, 2), 0);
        checks.dueRow("nothing is left", Checks.row(x, 1), 5, 2, 0, 2);
    }

    /** "those seats are given up": for good, also when there are more again and what is left ages or is joined. */
    private static void seatsStayGivenUp() {
        for (int stream = 0; stream < 2; stream++) {
            HeavyGuests x = new HeavyGuests();
            for (int guest = 1; guest <= 4; guest++) {
                x.come(stream, guest, 80 - guest);
            }
            x.seats(2);
            x.seats(12);
            checks.dueRow("two are left", Checks.row(x, stream), 1, 79, 0, 79, 2, 78, 0, 78);
            x.age(stream);
            checks.dueRow("two are left when they aged", Checks.row(x, stream), 1, 39, 0, 39, 2, 39, 0, 39);
            checks.dueRow("the true counts of all", Checks.tally(x, stream), 1, 39, 2, 39, 3, 38, 4, 38);
            x.join();
            checks.dueRow("two are left when they were joined", Checks.row(x, 0), 1, 39, 0, 39, 2, 39, 0, 39);
            checks.due("the third seat", x.come(0, 3, 1), 2);
            checks.dueRow("without its count", Checks.row(x, 0), 1, 39, 0, 39, 2, 39, 0, 39, 3, 1, 0, 39);
        }
    }

    /** "Seats whose count is 0 then are given up", "Guests whose true count is 0 are not counted any more": for good. */
    private static void ageLeavesNothingBehind() {
        for (int stream = 0; stream < 2; stream++) {
            HeavyGuests x = new HeavyGuests();
            x.come(stream, 1, 1);
            x.come(stream, 2, 1);
            x.come(stream, 3, 8);
            x.come(stream, 4, 9);
            for (int count = 4; count > 0; count /= 2) {
                x.age(stream);
                checks.dueRow("seats left", Checks.row(x, stream), 3, count, 0, count, 4, count, 0, count);
                checks.dueRow("true counts left", Checks.tally(x, stream), 3, count, 4, count);
            }
            x.age(stream);
            x.age(stream);
            checks.dueRow("nothing is left", Checks.numbers(x, stream), 0, 0, 0, 0, 0, 0, 0);
            checks.due("the first seat", x.come(stream, 2, 2), 0);
            checks.dueRow("of whom came then", Checks.row(x, stream), 2, 2, 0, 2);
            checks.dueRow("the only true count", Checks.tally(x, stream), 2, 2);
        }
    }

    /** "The stream 1 begins anew, without guests": none of them is there again when it ages or is joined. */
    private static void joinLeavesNothingBehind() {
        HeavyGuests x = new HeavyGuests();
        Checks.carryOut(x, "a*6;>b*9;>c*8;>d*7");
        x.join();
        int[] joined = {2, 9, 0, 9, 3, 8, 0, 8, 4, 7, 0, 7, 1, 6, 0, 6};
        checks.dueRow("joined", Checks.row(x, 0), joined);
        checks.due("age(1)", x.age(1), 0);
        checks.dueRow("no guests when it aged", Checks.numbers(x, 1), 0, 0, 0, 0, 0, 0, 0);
        checks.due("nobody to join", x.join(), 4);
        checks.dueRow("as before", Checks.row(x, 0), joined);
        checks.dueRow("true counts as before", Checks.tally(x, 0), 2, 9, 3, 8, 4, 7, 1, 6);
        x.come(1, 5, 3);
        x.age(1);
        checks.dueRow("only who came then", Checks.row(x, 1), 5, 1, 0, 1);
        checks.dueRow("the only true count", Checks.tally(x, 1), 5, 1);
    }

    /** What came and was undone, or was there ahead of restore(), is not there again when the stream ages or is joined. */
    private static void undoLeavesNothingBehind() {
        for (int stream = 0; stream < 2; stream++) {
            for (int way = 0; way < 2; way++) {
                HeavyGuests x = new HeavyGuests();
                x.come(stream, 1, 20);
                x.save(1);
                x.come(stream, 2, 30);
                x.come(stream, 3, 40);
                if (way == 0) {
                    x.undo();
                    x.undo();
                } else {
                    x.restore(1);
                }
                x.age(stream);
                checks.dueRow("seats when it aged", Checks.row(x, stream), 1, 10, 0, 10);
                checks.dueRow("true counts when it aged", Checks.tally(x, stream), 1, 10);
                x.join();
                checks.dueRow("seats when it was joined", Checks.row(x, 0), 1, 10, 0, 10);
                checks.dueRow("numbers when it was joined", Checks.numbers(x, 0), 10, 1, 1, 0, 10, 0, 0);
            }
        }
    }
}
