/** Promises 6 to 15: a test for each sentence that names a boundary, with its words. */
public final class BoundsOfAnswersTest {
    private static final Checks checks = new Checks();
    private static final Refusals refusals = new Refusals(checks);

    public static void main(String[] args) {
        seatNoStream();
        seatNotTaken();
        seatWhat();
        seatTrueCount();
        ofNoStream();
        ofNoCode();
        ofWhat();
        ofNone();
        ofMost();
        ofLeast();
        ofTruly();
        ofLetters();
        streamNoStream();
        streamWhat();
        streamLeastCount();
        streamWithoutGuests();
        streamAtItsGreatest();
        streamGreatestExcess();
        countWhat();
        countThePad();
        countTheHistory();
        aboveNoStream();
        aboveHundredths();
        aboveWhat();
        aboveJustSoMany();
        aboveWithoutGuests();
        aboveOfTheGreatestTotal();
        aboveOfAllWhoCame();
        aboveWithoutAnySure();
        heaviestNoPlace();
        heaviestAlike();
        trulyNoPlace();
        trulyAlike();
        sureOrderNoStream();
        sureOrderWithoutGuests();
        sureOrderOfTheNextOne();
        sureOrderOfThoseWithoutSeats();
        sureOrderUpToTheFirstUnsure();
        wouldTakeErrors();
        wouldTakeSeats();
        wouldTakeThoughTooMany();
        doubtErrors();
        doubtOfThoseWithoutSeats();
        nothingChanges();
        checks.finish();
    }

    /** Seats with these counts and excesses, the guests i, h, g, .. in them, SEATS as many and free ones more. */
    private static HeavyGuests seated(int stream, int free, int[]... seats) {
        HeavyGuests x = new HeavyGuests();
        for (int i = 0; i < seats.length; i++) {
            x.seats(i + 1);
            if (seats[i][1] > 0) {
                x.come(stream, 26 * 27 + 9 - i, seats[i][1]);
            }
            x.come(stream, 9 - i, seats[i][0] - seats[i][1]);
        }
        x.seats(seats.length + free);
        return x;
    }

    /** seat: "NO_SUCH if there is no such stream", ahead of the other errors. */
    private static void seatNoStream() {
        for (int stream : Refusals.outside(0, 1)) {
            refusals.always("seat(" + stream + ", 0, 0)", x -> x.seat(stream, 0, 0), HeavyGuests.NO_SUCH);
            refusals.always("seat(" + stream + ", 12, 4)", x -> x.seat(stream, 12, 4), HeavyGuests.NO_SUCH);
        }
    }

    /** seat: "NO_SUCH if .. this seat is not taken": none, some, and all of 12. */
    private static void seatNotTaken() {
        for (int taken = 0; taken <= 12; taken++) {
            for (int stream = 0; stream < 2; stream++) {
                HeavyGuests x = new HeavyGuests();
                x.seats(12);
                for (int i = 0; i < taken; i++) {
                    x.come(stream, i + 1, i + 5);
                }
                for (int i = 0; i < taken; i++) {
                    checks.due("seat " + i + " of " + taken, x.seat(stream, i, 0), i + 1);
                    checks.due("seat " + i + " of " + taken, x.seat(stream, i, 1), i + 5);
                    checks.due("seat " + i + " of " + taken, x.seat(stream, i, 2), 0);
                    checks.due("seat " + i + " of " + taken, x.seat(stream, i, 3), i + 5);
                }
                for (int seat : new int[] {-1, taken, taken + 1, 12, 13, 24, taken + 256, taken + 65536, 1 << 31,
                    Integer.MAX_VALUE}) {
                    checks.due("seat " + seat + " of " + taken, x.seat(stream, seat, 0), HeavyGuests.NO_SUCH);
                    checks.due("ahead of what", x.seat(stream, seat, 4), HeavyGuests.NO_SUCH);
                }
                checks.due("not of the other", x.seat(1 - stream, 0, 0), HeavyGuests.NO_SUCH);
            }
        }
        for (int seat : new int[] {-1, 3, 4, 12, 24, Integer.MIN_VALUE, Integer.MAX_VALUE}) {
            refusals.in("in use", Refusals::inUse, "seat(0, " + seat + ", 0)", x -> x.seat(0, seat, 0), HeavyGuests.NO_SUCH);
        }
        HeavyGuests x = seated(0, 0, new int[] {5, 0}, new int[] {4, 0}, new int[] {3, 0});
        x.seats(2);
        checks.due("a seat that was given up", x.seat(0, 2, 0), HeavyGuests.NO_SUCH);
        checks.due("the last that was not", x.seat(0, 1, 0), 8);
    }

    /** seat: "BAD_VALUE if what is out of range". */
    private static void seatWhat() {
        for (int what : Refusals.outside(0, 3)) {
            refusals.in("in use", Refusals::inUse, "seat(0, 2, " + what + ")", x -> x.seat(0, 2, what), HeavyGuests.BAD_VALUE);
            refusals.in("in use", Refusals::inUse, "seat(1, 0, " + what + ")", x -> x.seat(1, 0, what), HeavyGuests.BAD_VALUE);
        }
    }

    /** seat: "3 the true count of its guest": 0, if it is not counted any more. */
    private static void seatTrueCount() {
        HeavyGuests x = seated(1, 0, new int[] {4, 3});
        checks.due("before", x.seat(1, 0, 3), 1);
        x.age(1);
        checks.due("afterwards", x.seat(1, 0, 3), 0);
        checks.due("its count", x.seat(1, 0, 1), 2);
    }

    /** of: "NO_SUCH if there is no such stream", ahead of the other errors. */
    private static void ofNoStream() {
        for (int stream : Refusals.outside(0, 1)) {
            refusals.always("of(" + stream + ", 1, 0)", x -> x.of(stream, 1, 0), HeavyGuests.NO_SUCH);
            refusals.always("of(" + stream + ", 0, 5)", x -> x.of(stream, 0, 5), HeavyGuests.NO_SUCH);
        }
    }

    /** of: "BAD_VALUE if guest is no code": not NONE, which "is returned only if no error applies". */
    private static void ofNoCode() {
        for (int guest : Refusals.NO_CODES) {
            for (int what = 0; what < 5; what++) {
                int asked = what;
                refusals.always("of(0, " + guest + ", " + what + ")", x -> x.of(0, guest, asked), HeavyGuests.BAD_VALUE);
            }
        }
    }

    /** of: "BAD_VALUE if .. what is out of range". */
    private static void ofWhat() {
        for (int what : Refusals.outside(0, 4)) {
            refusals.always("of(0, 1, " + what + ")", x -> x.of(0, 1, what), HeavyGuests.BAD_VALUE);
            refusals.always("of(1, 531440, " + what + ")", x -> x.of(1, 531440, what), HeavyGuests.BAD_VALUE);
        }
    }

    /** of: "0 the number of its seat (NONE)": the first seat, the last one, and none. */
    private static void ofNone() {
        HeavyGuests x = new HeavyGuests();
        x.seats(12);
        for (int guest = 1; guest <= 12; guest++) {
            checks.due("not yet", x.of(1, guest, 0), HeavyGuests.NONE);
            x.come(1, guest, 5);
            checks.due("seat of " + guest, x.of(1, guest, 0), guest - 1);
        }
        x.come(1, 13, 1);
        checks.due("taken over", x.of(1, 1, 0), HeavyGuests.NONE);
        checks.due("by this one", x.of(1, 13, 0), 0);
        checks.due("not in the other", x.of(0, 2, 0), HeavyGuests.NONE);
        x.seats(1);
        checks.due("of those given up", x.of(1, 12, 0), HeavyGuests.NONE);
        checks.due("of the one left", x.of(1, 13, 0), 0);
    }

    /**
     * "The most that it can have come is the count of its seat; without a seat the least count of all
     * seats, if all are taken, otherwise 0."
     */
    private static void ofMost() {
        for (int seats = 1; seats <= 12; seats++) {
            HeavyGuests x = new HeavyGuests();
            x.seats(seats);
            for (int i = 0; i < seats; i++) {
                checks.due("while " + i + " of " + seats + " are taken", x.of(0, 26, 1), 0);
                x.come(0, i + 1, 9 + i);
                checks.due("the count of its seat", x.of(0, i + 1, 1), 9 + i);
            }
            checks.due("all " + seats + " are taken", x.of(0, 26, 1), 9);
            x.come(0, 1, 20);
            checks.due("the least count now", x.of(0, 26, 1), seats == 1 ? 29 : 10);
            if (seats < 12) {
                x.seats(seats + 1);
                checks.due("one is free again", x.of(0, 26, 1), 0);
            }
        }
    }

    /** "The least that it must have come is the count of its seat less its excess; without a seat 0." */
    private static void ofLeast() {
        HeavyGuests x = seated(0, 0, new int[] {9, 0}, new int[] {8, 7}, new int[] {7, 1});
        checks.due("without an excess", x.of(0, 9, 2), 9);
        checks.due("with a great one", x.of(0, 8, 2), 1);
        checks.due("with a small one", x.of(0, 7, 2), 6);
        checks.due("without a seat", x.of(0, 26 * 27 + 8, 2), 0);
        checks.due("never came", x.of(0, 1, 2), 0);
        checks.due("in the other", x.of(1, 9, 2), 0);
    }

    /** of: "3 how often it truly came", the first and the last one of 60. */
    private static void ofTruly() {
        HeavyGuests x = new HeavyGuests();
        for (int i = 0; i < 60; i++) {
            x.come(1, Checks.codeNumber(i), 100 - i);
        }
        for (int i = 0; i < 60; i++) {
            checks.due("guest " + i, x.of(1, Checks.codeNumber(i), 3), 100 - i);
            checks.due("of the other", x.of(0, Checks.codeNumber(i), 3), 0);
        }
        checks.due("none of them", x.of(1, Checks.codeNumber(60), 3), 0);
    }

    /** of: "4 the letters of its name": the least and the greatest code of each length. */
    private static void ofLetters() {
        int[][] due = {{1, 26}, {28, 728}, {757, 19682}, {20440, 531440}};
        for (int letters = 1; letters <= 4; letters++) {
            for (int code : due[letters - 1]) {
                checks.due("letters of " + code, new HeavyGuests().of(0, code, 4), letters);
            }
        }
    }

    /** stream: "NO_SUCH if there is no such stream", ahead of the other error. */
    private static void streamNoStream() {
        for (int stream : Refusals.outside(0, 1)) {
            refusals.always("stream(" + stream + ", 0)", x -> x.stream(stream, 0), HeavyGuests.NO_SUCH);
            refusals.always("stream(" + stream + ", 7)", x -> x.stream(stream, 7), HeavyGuests.NO_SUCH);
        }
    }

    /** stream: "BAD_VALUE if what is out of range". */
    private static void streamWhat() {
        for (int what : Refusals.outside(0, 6)) {
            refusals.always("stream(0, " + what + ")", x -> x.stream(0, what), HeavyGuests.BAD_VALUE);
            refusals.always("stream(1, " + what + ")", x -> x.stream(1, what), HeavyGuests.BAD_VALUE);
        }
    }

    /** stream: "3 the least count of all seats (0 if not all are taken)", wherever it is. */
    private static void streamLeastCount() {
        for (int least = 0; least < 4; least++) {
            HeavyGuests x = new HeavyGuests();
            for (int seat = 0; seat < 4; seat++) {
                checks.due("not all are taken", x.stream(0, 3), 0);
                x.come(0, seat + 1, seat == least ? 7 : 8);
            }
            checks.due("all are taken", x.stream(0, 3), 7);
            x.seats(5);
            checks.due("one is free", x.stream(0, 3), 0);
            x.seats(4);
            checks.due("none is free", x.stream(0, 3), 7);
            x.seats(3);
            checks.due("the least is given up", x.stream(0, 3), 8);
        }
    }

    /** stream: nothing to count: each number is 0. */
    private static void streamWithoutGuests() {
        for (int seats : new int[] {1, 12}) {
            HeavyGuests x = new HeavyGuests();
            x.seats(seats);
            checks.dueRow("stream 0", Checks.numbers(x, 0), 0, 0, 0, 0, 0, 0, 0);
            checks.dueRow("stream 1", Checks.numbers(x, 1), 0, 0, 0, 0, 0, 0, 0);
        }
    }

    /** stream: everything is full: the total is 99999, 60 unlike guests came, 12 seats are taken. */
    private static void streamAtItsGreatest() {
        for (int stream = 0; stream < 2; stream++) {
            HeavyGuests x = new HeavyGuests();
            x.seats(12);
            for (int i = 0; i < 100; i++) {
                x.come(stream, Checks.codeNumber(i % 60), 999);
            }
            x.come(stream, 1, 99);
            checks.due("total", x.stream(stream, 0), 99999);
            checks.due("taken seats", x.stream(stream, 1), 12);
            checks.due("unlike guests", x.stream(stream, 2), 60);
            checks.due("the sum of all counts is the total", x.stream(stream, 4), 99999);
            checks.due("all but the first twelve took over", x.stream(stream, 6), 89);
        }
    }

    /** stream: "5 the greatest excess", wherever it is. */
    private static void streamGreatestExcess() {
        int[][][] rows = {{{9, 3}, {8, 2}, {7, 2}}, {{9, 2}, {8, 3}, {7, 2}}, {{9, 2}, {8, 2}, {7, 3}}, {{9, 0}, {8, 0}, {7, 3}},
            {{9, 3}, {8, 0}, {7, 0}}};
        for (int[][] row : rows) {
            checks.due("the greatest", seated(1, 0, row).stream(1, 5), 3);
        }
        checks.due("without any", seated(1, 0, new int[] {9, 0}, new int[] {8, 0}).stream(1, 5), 0);
    }

    /** count: "BAD_VALUE if what is out of range". */
    private static void countWhat() {
        for (int what : Refusals.outside(0, 2)) {
            refusals.always("count(" + what + ")", x -> x.count(what), HeavyGuests.BAD_VALUE);
        }
    }

    /** count: "1 the length of the pad": empty to full, and after what is refused. */
    private static void countThePad() {
        HeavyGuests x = new HeavyGuests();
        for (int length = 0; length < 80; length++) {
            checks.due("pad", x.count(1), length);
            x.put('a');
        }
        checks.due("a full pad", x.count(1), 80);
        x.put('a');
        checks.due("still full", x.count(1), 80);
        x.wipe();
        checks.due("an empty pad", x.count(1), 0);
    }

    /** count: "2 how many changes can be undone": none to six. */
    private static void countTheHistory() {
        HeavyGuests x = new HeavyGuests();
        for (int changes = 0; changes < 9; changes++) {
            checks.due("changes", x.count(2), Math.min(changes, 6));
            x.come(0, 1, 1);
        }
        for (int left = 6; left > 0; left--) {
            checks.due("left", x.count(2), left);
            x.undo();
        }
        checks.due("none left", x.count(2), 0);
    }

    /** above: "NO_SUCH if there is no such stream", ahead of the other errors. */
    private static void aboveNoStream() {
        for (int stream : Refusals.outside(0, 1)) {
            refusals.always("above(" + stream + ", 0, 0)", x -> x.above(stream, 0, 0), HeavyGuests.NO_SUCH);
            refusals.always("above(" + stream + ", 101, 3)", x -> x.above(stream, 101, 3), HeavyGuests.NO_SUCH);
        }
    }

    /** above: "hundredths: 0 to 100"; "BAD_VALUE if another argument is out of range". */
    private static void aboveHundredths() {
        for (int hundredths : Refusals.outside(0, 100)) {
            for (int what = 0; what < 3; what++) {
                int asked = what;
                refusals.always("above(0, " + hundredths + ", " + what + ")", x -> x.above(0, hundredths, asked),
                        HeavyGuests.BAD_VALUE);
            }
        }
        HeavyGuests x = seated(0, 0, new int[] {9, 0});
        for (int what = 0; what < 3; what++) {
            checks.due("above(0, 0, " + what + ")", x.above(0, 0, what), 1);
            checks.due("above(0, 99, " + what + ")", x.above(0, 99, what), 1);
            checks.due("above(0, 100, " + what + ")", x.above(0, 100, what), 0);
        }
    }

    /** above: "BAD_VALUE if another argument is out of range". */
    private static void aboveWhat() {
        for (int what : Refusals.outside(0, 2)) {
            refusals.always("above(0, 0, " + what + ")", x -> x.above(0, 0, what), HeavyGuests.BAD_VALUE);
            refusals.always("above(1, 100, " + what + ")", x -> x.above(1, 100, what), HeavyGuests.BAD_VALUE);
        }
    }

    /** above: "more than so many hundredths of the total": not just as many, for each of the three. */
    private static void aboveJustSoMany() {
        // Of 100: i 45 with 9, h 35 with 5, g 20; those whose seats were taken over came 9 and 5 times.
        HeavyGuests x = seated(1, 0, new int[] {45, 9}, new int[] {35, 5}, new int[] {20, 0});
        int[][] numbers = {{36, 30, 20}, {45, 35, 20}, {36, 30, 20, 9, 5}};
        for (int hundredths = 0; hundredths <= 100; hundredths++) {
            for (int what = 0; what < 3; what++) {
                int due = 0;
                for (int number : numbers[what]) {
                    due += number > hundredths ? 1 : 0;
                }
                checks.due("above(1, " + hundredths + ", " + what + ")", x.above(1, hundredths, what), due);
            }
        }
        // Shares that are no whole numbers: of 3 two are 66.6.. of 100, of 7 three are 42.8..
        HeavyGuests y = seated(0, 0, new int[] {2, 0}, new int[] {1, 0});
        HeavyGuests z = seated(0, 0, new int[] {4, 0}, new int[] {3, 0});
        for (int what = 0; what < 3; what++) {
            checks.due("two of 3", y.above(0, 66, what), 1);
            checks.due("two of 3", y.above(0, 67, what), 0);
            checks.due("one of 3", y.above(0, 33, what), 2);
            checks.due("one of 3", y.above(0, 34, what), 1);
            checks.due("three of 7", z.above(0, 42, what), 2);
            checks.due("three of 7", z.above(0, 43, what), 1);
            checks.due("four of 7", z.above(0, 57, what), 1);
            checks.due("four of 7", z.above(0, 58, what), 0);
        }
    }

    /** above: a total of 0: none is above 0. */
    private static void aboveWithoutGuests() {
        HeavyGuests x = new HeavyGuests();
        for (int what = 0; what < 3; what++) {
            for (int hundredths : new int[] {0, 1, 100}) {
                checks.due("without guests", x.above(0, hundredths, what), 0);
            }
        }
        x.come(0, 1, 1);
        x.age(0);
        for (int what = 0; what < 3; what++) {
            checks.due("aged away", x.above(0, 0, what), 0);
        }
    }

    /** above: 100 times the greatest total, where a narrower number would wrap around. */
    private static void aboveOfTheGreatestTotal() {
        HeavyGuests x = new HeavyGuests();
        for (int i = 0; i < 100; i++) {
            x.come(1, i % 2 + 1, 999);
        }
        x.come(1, 1, 99);
        // a 50049 of 99999, 50.04.. of 100; b 49950, 49.95..
        for (int what = 0; what < 3; what++) {
            checks.due("above 0", x.above(1, 0, what), 2);
            checks.due("above 49", x.above(1, 49, what), 2);
            checks.due("above 50", x.above(1, 50, what), 1);
            checks.due("above 51", x.above(1, 51, what), 0);
            checks.due("above 100", x.above(1, 100, what), 0);
        }
    }

    /** above: "2 those who truly are (of all who came)": also those without seats, up to 60. */
    private static void aboveOfAllWhoCame() {
        HeavyGuests x = new HeavyGuests();
        x.seats(1);
        for (int i = 0; i < 60; i++) {
            x.come(0, Checks.codeNumber(i), i < 40 ? 1 : 3);
        }
        // The total is 100.
        checks.due("above 0", x.above(0, 0, 2), 60);
        checks.due("above 1", x.above(0, 1, 2), 20);
        checks.due("above 2", x.above(0, 2, 2), 20);
        checks.due("above 3", x.above(0, 3, 2), 0);
        checks.due("surely above 2", x.above(0, 2, 0), 1);
        checks.due("surely above 3", x.above(0, 3, 0), 0);
        checks.due("perhaps above 99", x.above(0, 99, 1), 1);
        checks.due("perhaps above 100", x.above(0, 100, 1), 0);
    }

    /** above: "100 times the least that they must have come is above": a least of 0 never is. */
    private static void aboveWithoutAnySure() {
        HeavyGuests x = seated(0, 0, new int[] {3, 2});
        x.age(0);
        checks.due("surely above 0", x.above(0, 0, 0), 0);
        checks.due("perhaps above 0", x.above(0, 0, 1), 1);
        checks.due("truly above 0", x.above(0, 0, 2), 1);
    }

    /** heaviest: "NO_SUCH if there is no such stream or place"; "place: 0 for the heaviest one". */
    private static void heaviestNoPlace() {
        for (int stream : Refusals.outside(0, 1)) {
            refusals.always("heaviest(" + stream + ", 0)", x -> x.heaviest(stream, 0), HeavyGuests.NO_SUCH);
        }
        for (int place : Refusals.outside(0, 11)) {
            refusals.always("heaviest(0, " + place + ")", x -> x.heaviest(0, place), HeavyGuests.NO_SUCH);
        }
        for (int taken = 0; taken <= 12; taken++) {
            for (int stream = 0; stream < 2; stream++) {
                HeavyGuests x = new HeavyGuests();
                x.seats(12);
                for (int i = 0; i < taken; i++) {
                    x.come(stream, i + 1, i + 1);
                }
                for (int place = 0; place < taken; place++) {
                    checks.due("place " + place + " of " + taken, x.heaviest(stream, place), taken - place);
                }
                for (int place : Refusals.outside(0, taken - 1)) {
                    checks.due("place " + place + " of " + taken, x.heaviest(stream, place), HeavyGuests.NO_SUCH);
                }
                checks.due("of the other", x.heaviest(1 - stream, 0), HeavyGuests.NO_SUCH);
            }
        }
    }

    /** heaviest: "by count, the greatest first, of several by excess, the least first, then by code, the least first". */
    private static void heaviestAlike() {
        int[][][] rows = {
            // count and excess of i, h and g, then their order
            {{5, 0}, {5, 0}, {5, 0}, {7, 8, 9}}, {{6, 0}, {5, 0}, {5, 0}, {9, 7, 8}}, {{5, 0}, {6, 0}, {5, 0}, {8, 7, 9}},
            {{5, 0}, {5, 0}, {5, 1}, {8, 9, 7}}, {{5, 1}, {5, 2}, {5, 2}, {9, 7, 8}}, {{6, 5}, {5, 0}, {5, 1}, {9, 8, 7}},
            {{5, 0}, {5, 1}, {6, 4}, {7, 9, 8}}, {{5, 3}, {5, 3}, {5, 2}, {7, 8, 9}}, {{7, 0}, {6, 5}, {5, 4}, {9, 8, 7}}};
        for (int[][] row : rows) {
            HeavyGuests x = seated(0, 1, row[0], row[1], row[2]);
            checks.dueRow("order of " + java.util.Arrays.deepToString(row), Checks.heaviest(x, 0), row[3]);
        }
    }

    /** truly: "NO_SUCH if there is no such stream or place": none, one, and all 60. */
    private static void trulyNoPlace() {
        for (int stream : Refusals.outside(0, 1)) {
            refusals.always("truly(" + stream + ", 0)", x -> x.truly(stream, 0), HeavyGuests.NO_SUCH);
        }
        for (int place : Refusals.outside(0, 59)) {
            refusals.always("truly(0, " + place + ")", x -> x.truly(0, place), HeavyGuests.NO_SUCH);
            refusals.always("truly(1, " + place + ")", x -> x.truly(1, place), HeavyGuests.NO_SUCH);
        }
        HeavyGuests x = new HeavyGuests();
        for (int number = 0; number <= 60; number++) {
            checks.due("place " + number + " of " + number, x.truly(1, number), HeavyGuests.NO_SUCH);
            checks.due("place -1 of " + number, x.truly(1, -1), HeavyGuests.NO_SUCH);
            if (number < 60) {
                x.come(1, Checks.codeNumber(number), 99 - number);
                checks.due("the last place of " + (number + 1), x.truly(1, number), Checks.codeNumber(number));
                checks.due("the first place", x.truly(1, 0), 1);
            }
        }
        checks.due("of the other", x.truly(0, 0), HeavyGuests.NO_SUCH);
    }

    /** truly: "by true counts, the greatest first, of several by code, the least first". */
    private static void trulyAlike() {
        HeavyGuests x = new HeavyGuests();
        x.seats(1);
        Checks.carryOut(x, "c*3;b*4;d*3;a*3");
        checks.dueRow("alike", Checks.tally(x, 0), 2, 4, 1, 3, 3, 3, 4, 3);
        Checks.carryOut(x, "d");
        checks.dueRow("as great as the first", Checks.tally(x, 0), 2, 4, 4, 4, 1, 3, 3, 3);
        Checks.carryOut(x, "d");
        checks.dueRow("greater than the first", Checks.tally(x, 0), 4, 5, 2, 4, 1, 3, 3, 3);
        Checks.carryOut(x, "a");
        checks.dueRow("as great, with less a code", Checks.tally(x, 0), 4, 5, 1, 4, 2, 4, 3, 3);
        x.age(0);
        checks.dueRow("alike by ageing", Checks.tally(x, 0), 1, 2, 2, 2, 4, 2, 3, 1);
        HeavyGuests y = new HeavyGuests();
        Checks.carryOut(y, "d*5;c*4");
        y.age(0);
        checks.dueRow("the last one goes ahead by ageing", Checks.tally(y, 0), 3, 2, 4, 2);
    }

    /** sureOrder: "NO_SUCH if there is no such stream". */
    private static void sureOrderNoStream() {
        for (int stream : Refusals.outside(0, 1)) {
            refusals.always("sureOrder(" + stream + ")", x -> x.sureOrder(stream), HeavyGuests.NO_SUCH);
        }
    }

    /** sureOrder: "at most all taken seats": none, one, and all of 12. */
    private static void sureOrderWithoutGuests() {
        for (int taken = 0; taken <= 12; taken++) {
            HeavyGuests x = new HeavyGuests();
            x.seats(12);
            for (int i = 0; i < taken; i++) {
                x.come(1, i + 1, 5 + i % 3);
            }
            checks.due("all " + taken, x.sureOrder(1), taken);
            checks.due("of the other", x.sureOrder(0), 0);
        }
    }

    /** sureOrder: "the least that it must have come is at least the most that the next one .. can have come". */
    private static void sureOrderOfTheNextOne() {
        // A seat more than are taken: guests without seats can't have come.
        checks.due("just as often", seated(0, 1, new int[] {9, 4}, new int[] {5, 0}).sureOrder(0), 2);
        checks.due("once less", seated(0, 1, new int[] {9, 5}, new int[] {5, 0}).sureOrder(0), 0);
        checks.due("once more", seated(0, 1, new int[] {9, 3}, new int[] {5, 0}).sureOrder(0), 2);
        checks.due("alike", seated(0, 1, new int[] {5, 0}, new int[] {5, 0}).sureOrder(0), 2);
        checks.due("the last one has no next", seated(0, 1, new int[] {9, 0}, new int[] {5, 4}).sureOrder(0), 2);
        checks.due("it is the most of the next", seated(0, 1, new int[] {9, 5}, new int[] {5, 4}).sureOrder(0), 0);
        checks.due("the only one", seated(0, 1, new int[] {9, 8}).sureOrder(0), 1);
        HeavyGuests x = seated(0, 1, new int[] {3, 2});
        x.age(0);
        checks.due("who perhaps never came", x.sureOrder(0), 1);
    }

    /** sureOrder: "and any guest without a seat, can have come": just as often as the least count, if all are taken. */
    private static void sureOrderOfThoseWithoutSeats() {
        checks.due("the last one, just as often", seated(0, 0, new int[] {9, 0}, new int[] {5, 0}).sureOrder(0), 2);
        checks.due("the last one, once less", seated(0, 0, new int[] {9, 0}, new int[] {5, 1}).sureOrder(0), 1);
        checks.due("one seat is free", seated(0, 1, new int[] {9, 0}, new int[] {5, 1}).sureOrder(0), 2);
        checks.due("the only one", seated(0, 0, new int[] {9, 1}).sureOrder(0), 0);
        checks.due("the only one, who took none over", seated(0, 0, new int[] {9, 0}).sureOrder(0), 1);
        checks.due("the first one, once less", seated(0, 0, new int[] {9, 5}, new int[] {5, 0}).sureOrder(0), 0);
        checks.due("the first one, just as often", seated(0, 0, new int[] {9, 4}, new int[] {5, 0}).sureOrder(0), 2);
    }

    /** sureOrder: "for each of the first n": those behind the first who is not sure don't count. */
    private static void sureOrderUpToTheFirstUnsure() {
        int[][] sure = {{9, 0}, {8, 0}, {7, 0}, {6, 0}};
        int[][] unsure = {{9, 2}, {8, 2}, {7, 2}, {6, 1}};
        for (int first = 0; first < 4; first++) {
            int[][] row = sure.clone();
            row[first] = unsure[first];
            checks.due("unsure at " + first, seated(0, 0, row).sureOrder(0), first);
        }
        checks.due("none is unsure", seated(0, 0, sure).sureOrder(0), 4);
    }

    private interface AskedOfAGuest {
        int ask(HeavyGuests x, int stream, int guest);
    }

    private static void errorsOfAsking(String call, AskedOfAGuest asked) {
        for (int stream : Refusals.outside(0, 1)) {
            for (int guest : new int[] {1, 0}) {
                refusals.always(call + "(" + stream + ", " + guest + ")", x -> asked.ask(x, stream, guest),
                        HeavyGuests.NO_SUCH);
            }
        }
        for (int guest : Refusals.NO_CODES) {
            for (int stream = 0; stream < 2; stream++) {
                int of = stream;
                refusals.always(call + "(" + stream + ", " + guest + ")", x -> asked.ask(x, of, guest), HeavyGuests.BAD_VALUE);
            }
        }
        checks.due(call + "(0, 1)", asked.ask(new HeavyGuests(), 0, 1), 0);
        checks.due(call + "(1, 531440)", asked.ask(new HeavyGuests(), 1, 531440), 0);
    }

    /** wouldTake: "NO_SUCH if there is no such stream; BAD_VALUE if guest is no code", in this order. */
    private static void wouldTakeErrors() {
        errorsOfAsking("wouldTake", HeavyGuests::wouldTake);
    }

    /** wouldTake: "its own, if it has one", the next free one, or "the seat that would be .. taken over". */
    private static void wouldTakeSeats() {
        for (int seats = 1; seats <= 12; seats++) {
            HeavyGuests x = new HeavyGuests();
            x.seats(seats);
            for (int i = 0; i < seats; i++) {
                checks.due("the next of " + seats, x.wouldTake(1, 26), i);
                x.come(1, i + 1, 20 - i);
                checks.due("its own", x.wouldTake(1, i + 1), i);
            }
            checks.due("taken over, of " + seats, x.wouldTake(1, 26), seats - 1);
            checks.due("its own, though all are taken", x.wouldTake(1, 1), 0);
            checks.due("in the other", x.wouldTake(0, 1), 0);
        }
        checks.due("one less", seated(0, 0, new int[] {5, 0}, new int[] {4, 0}).wouldTake(0, 1), 1);
        checks.due("alike", seated(0, 0, new int[] {5, 0}, new int[] {5, 0}).wouldTake(0, 1), 0);
        checks.due("more of an excess", seated(0, 0, new int[] {5, 0}, new int[] {5, 1}).wouldTake(0, 1), 1);
        checks.due("as much of an excess", seated(0, 0, new int[] {5, 1}, new int[] {5, 1}).wouldTake(0, 1), 0);
        checks.due("count ahead of excess", seated(0, 0, new int[] {5, 0}, new int[] {6, 4}).wouldTake(0, 1), 0);
    }

    /** wouldTake names no TOO_MANY: it answers although come() would not let the guest come. */
    private static void wouldTakeThoughTooMany() {
        HeavyGuests x = Refusals.full(0);
        int seat = x.wouldTake(0, 531440);
        checks.due("the guest would not come", x.come(0, 531440, 1), HeavyGuests.TOO_MANY);
        checks.due("it has the least count", x.seat(0, seat, 1), x.stream(0, 3));
    }

    /** doubt: "errors as for wouldTake()". */
    private static void doubtErrors() {
        errorsOfAsking("doubt", HeavyGuests::doubt);
    }

    /** doubt: "the most that it can have come, less the least that it must have come", with a seat and without one. */
    private static void doubtOfThoseWithoutSeats() {
        HeavyGuests x = seated(0, 0, new int[] {9, 0}, new int[] {6, 5});
        checks.due("with a seat", x.doubt(0, 9), 0);
        checks.due("with an excess", x.doubt(0, 8), 5);
        checks.due("without a seat", x.doubt(0, 531440), 6);
        x.seats(3);
        checks.due("one seat is free", x.doubt(0, 1), 0);
        checks.due("with an excess still", x.doubt(0, 8), 5);
        checks.due("in the other", x.doubt(1, 9), 0);
    }

    /** "questions; nothing changes": nor do the calls that tell what there is. */
    private static void nothingChanges() {
        refusals.in("in use", Refusals::inUse, "all that can be asked", x -> {
            Checks.seen(x);
            for (int guest : new int[] {1, 2, 26, 531440}) {
                for (int what = 0; what < 5; what++) {
                    x.of(0, guest, what);
                    x.above(1, 20, what);
                }
                x.wouldTake(1, guest);
                x.doubt(1, guest);
            }
            return 0;
        }, 0);
    }
}
