/**
 * The heaviest guests of two streams, counted in few seats. What each method promises stands in
 * the project's document. Everything an object ever needs is made with it: no call makes an object.
 */
public final class HeavyGuests {
    public static final int NO_SUCH = -1, BAD_VALUE = -2, BAD_TEXT = -3, TOO_MANY = -4, NOT_POSSIBLE = -5, NONE = -6;

    // No error code is 0, so it can stand for "nothing is wrong".
    private static final int NO_ERROR = 0;

    private static final int MOST_SEATS = 12;
    private static final int SEATS_AT_FIRST = 4;
    private static final int MOST_UNLIKE_GUESTS = 60;
    private static final int MOST_TOTAL = 99999;
    private static final int MOST_TIMES = 999;

    private static final int CODE_BASE = 27;
    private static final int GREATEST_CODE = 531440;
    private static final int MOST_LETTERS = 4;

    private static final int PAD_LENGTH = 80;
    private static final int PUT_LENGTH = 8;
    private static final int LEAST_SIGN = 33;
    private static final int GREATEST_SIGN = 126;

    private static final int HISTORY_LENGTH = 6;

    private final State now = new State();
    private final History history = new History();
    private final Slot[] slots = {new Slot(), new Slot()};
    private final Pad pad = new Pad();
    private final Order order = new Order();
    private final Row joinedRow = new Row(2 * MOST_SEATS);

    public HeavyGuests() {
    }

    // ---- changes

    public int seats(int seats) {
        if (seats < 1 || seats > MOST_SEATS) {
            return BAD_VALUE;
        }
        history.remember(now);
        int before = now.seatsOfEach();
        now.changeSeats(seats);
        return before;
    }

    public int come(int stream, int guest, int times) {
        if (!isStream(stream)) {
            return NO_SUCH;
        }
        int error = now.streamOf(stream).errorOfComing(guest, times);
        if (error != NO_ERROR) {
            return error;
        }
        history.remember(now);
        return now.streamOf(stream).letCome(guest, times);
    }

    public int age(int stream) {
        if (!isStream(stream)) {
            return NO_SUCH;
        }
        history.remember(now);
        now.streamOf(stream).halve();
        return now.streamOf(stream).total;
    }

    public int join() {
        int error = now.errorOfJoining();
        if (error != NO_ERROR) {
            return error;
        }
        history.remember(now);
        now.joinStreams(joinedRow);
        return now.streamOf(0).row.taken;
    }

    // ---- what there is

    public int seat(int stream, int seat, int what) {
        if (!isStream(stream)) {
            return NO_SUCH;
        }
        Stream asked = now.streamOf(stream);
        if (!asked.row.isTaken(seat)) {
            return NO_SUCH;
        }
        switch (what) {
            case 0:
                return asked.row.guestAt(seat);
            case 1:
                return asked.row.countAt(seat);
            case 2:
                return asked.row.excessAt(seat);
            case 3:
                return asked.tally.timesOf(asked.row.guestAt(seat));
            default:
                return BAD_VALUE;
        }
    }

    public int of(int stream, int guest, int what) {
        int error = errorOfAsking(stream, guest);
        if (error != NO_ERROR) {
            return error;
        }
        Stream asked = now.streamOf(stream);
        switch (what) {
            case 0:
                return asked.row.seatOf(guest);
            case 1:
                return asked.row.mostOf(guest);
            case 2:
                return asked.row.leastOf(guest);
            case 3:
                return asked.tally.timesOf(guest);
            case 4:
                return lettersOf(guest);
            default:
                return BAD_VALUE;
        }
    }

    public int stream(int stream, int what) {
        if (!isStream(stream)) {
            return NO_SUCH;
        }
        Stream asked = now.streamOf(stream);
        switch (what) {
            case 0:
                return asked.total;
            case 1:
                return asked.row.taken;
            case 2:
                return asked.tally.size;
            case 3:
                return asked.row.mostWithoutSeat();
            case 4:
                return asked.row.sumOfCounts();
            case 5:
                return asked.row.greatestExcess();
            case 6:
                return asked.takeovers;
            default:
                return BAD_VALUE;
        }
    }

    public int count(int what) {
        switch (what) {
            case 0:
                return now.seatsOfEach();
            case 1:
                return pad.length;
            case 2:
                return history.size;
            default:
                return BAD_VALUE;
        }
    }

    // ---- questions; nothing changes

    public int above(int stream, int hundredths, int what) {
        if (!isStream(stream)) {
            return NO_SUCH;
        }
        if (hundredths < 0 || hundredths > 100) {
            return BAD_VALUE;
        }
        Stream asked = now.streamOf(stream);
        int share = hundredths * asked.total;
        switch (what) {
            case 0:
                return asked.row.surelyAbove(share);
            case 1:
                return asked.row.perhapsAbove(share);
            case 2:
                return asked.tally.trulyAbove(share);
            default:
                return BAD_VALUE;
        }
    }

    public int heaviest(int stream, int place) {
        if (!isStream(stream)) {
            return NO_SUCH;
        }
        Row row = now.streamOf(stream).row;
        // There are as many places as taken seats.
        if (!row.isTaken(place)) {
            return NO_SUCH;
        }
        return row.guestAt(row.seatAtPlace(place));
    }

    public int truly(int stream, int place) {
        if (!isStream(stream)) {
            return NO_SUCH;
        }
        Tally tally = now.streamOf(stream).tally;
        if (!tally.hasPlace(place)) {
            return NO_SUCH;
        }
        return tally.guestAt(place);
    }

    public int sureOrder(int stream) {
        if (!isStream(stream)) {
            return NO_SUCH;
        }
        return now.streamOf(stream).row.placesInSureOrder();
    }

    public int wouldTake(int stream, int guest) {
        int error = errorOfAsking(stream, guest);
        if (error != NO_ERROR) {
            return error;
        }
        return now.streamOf(stream).row.seatFor(guest);
    }

    public int doubt(int stream, int guest) {
        int error = errorOfAsking(stream, guest);
        if (error != NO_ERROR) {
            return error;
        }
        Row row = now.streamOf(stream).row;
        return row.mostOf(guest) - row.leastOf(guest);
    }

    // ---- texts

    public int put(long characters) {
        int number = numberOfSigns(characters);
        if (number == 0) {
            return BAD_VALUE;
        }
        if (pad.length + number > PAD_LENGTH) {
            return TOO_MANY;
        }
        for (int behind = number - 1; behind >= 0; behind--) {
            pad.append((int) (characters >>> (8 * behind)) & 255);
        }
        return pad.length;
    }

    public int wipe() {
        int before = pad.length;
        pad.length = 0;
        return before;
    }

    public int fault() {
        order.begin();
        for (int index = 0; index < pad.length; index++) {
            if (!order.read(pad.signAt(index))) {
                return index;
            }
        }
        return order.mayEnd() ? NONE : pad.length;
    }

    public int carryOut() {
        if (fault() != NONE) {
            return BAD_TEXT;
        }
        history.remember(now);
        int carriedOut = 0;
        order.begin();
        for (int index = 0; index <= pad.length; index++) {
            // The last order has no ";" behind it, so the end of the text counts as one.
            int sign = index < pad.length ? pad.signAt(index) : ';';
            if (sign == ';') {
                if (carryOrderOut() != NO_ERROR) {
                    break;
                }
                carriedOut++;
            }
            order.read(sign);
        }
        pad.length = 0;
        return carriedOut;
    }

    // ---- undo, saving

    public int undo() {
        if (history.size == 0) {
            return NOT_POSSIBLE;
        }
        history.bringBack(now);
        return history.size;
    }

    public int save(int slot) {
        if (!isSlot(slot)) {
            return BAD_VALUE;
        }
        slots[slot].state.copyFrom(now);
        slots[slot].isUsed = true;
        return now.streamOf(0).total;
    }

    public int restore(int slot) {
        if (!isSlot(slot)) {
            return BAD_VALUE;
        }
        if (!slots[slot].isUsed) {
            return NOT_POSSIBLE;
        }
        history.remember(now);
        now.copyFrom(slots[slot].state);
        return now.streamOf(0).total;
    }

    // ---- within

    private static boolean isStream(int stream) {
        return stream == 0 || stream == 1;
    }

    private boolean isSlot(int slot) {
        return slot >= 0 && slot < slots.length;
    }

    private static int errorOfAsking(int stream, int guest) {
        if (!isStream(stream)) {
            return NO_SUCH;
        }
        return isCode(guest) ? NO_ERROR : BAD_VALUE;
    }

    private static boolean isCode(int guest) {
        if (guest < 1 || guest > GREATEST_CODE) {
            return false;
        }
        for (int rest = guest; rest > 0; rest /= CODE_BASE) {
            if (rest % CODE_BASE == 0) {
                return false;
            }
        }
        return true;
    }

    private static int lettersOf(int guest) {
        int letters = 0;
        for (int rest = guest; rest > 0; rest /= CODE_BASE) {
            letters++;
        }
        return letters;
    }

    /** How many signs the number holds, 0 if it is not one that may be put on the pad. */
    private static int numberOfSigns(long characters) {
        int number = 0;
        long rest = characters;
        // 8 bits that are 0 with anything above them are no sign either, and so refused here too.
        for (int i = 0; i < PUT_LENGTH && rest != 0; i++) {
            int sign = (int) (rest & 255);
            if (sign < LEAST_SIGN || sign > GREATEST_SIGN) {
                return 0;
            }
            rest >>>= 8;
            number++;
        }
        return number;
    }

    private int carryOrderOut() {
        Stream meant = now.streamOf(order.stream);
        int error = NO_ERROR;
        if (order.kind == Order.AGE) {
            meant.halve();
        } else if (order.kind == Order.JOIN) {
            error = now.errorOfJoining();
            if (error == NO_ERROR) {
                now.joinStreams(joinedRow);
            }
        } else {
            error = meant.errorOfComing(order.guest, order.times);
            if (error == NO_ERROR) {
                meant.letCome(order.guest, order.times);
            }
        }
        return error;
    }

    /** The seats of a stream, in the order of their numbers. */
    private static final class Row {
        // Twice the seats of a stream, as a row also holds the guests of both while they are joined.
        private final int[] guests = new int[2 * MOST_SEATS];
        private final int[] counts = new int[2 * MOST_SEATS];
        private final int[] excesses = new int[2 * MOST_SEATS];
        private int seats;
        private int taken;

        Row(int seats) {
            this.seats = seats;
        }

        void copyFrom(Row other) {
            System.arraycopy(other.guests, 0, guests, 0, guests.length);
            System.arraycopy(other.counts, 0, counts, 0, counts.length);
            System.arraycopy(other.excesses, 0, excesses, 0, excesses.length);
            seats = other.seats;
            taken = other.taken;
        }

        boolean isTaken(int seat) {
            return seat >= 0 && seat < taken && seat < guests.length;
        }

        int guestAt(int seat) {
            return seat >= 0 && seat < taken && seat < guests.length ? guests[seat] : 0;
        }

        int countAt(int seat) {
            return seat >= 0 && seat < taken && seat < counts.length ? counts[seat] : 0;
        }

        int excessAt(int seat) {
            return seat >= 0 && seat < taken && seat < excesses.length ? excesses[seat] : 0;
        }

        int seatOf(int guest) {
            for (int seat = 0; seat < taken; seat++) {
                if (guestAt(seat) == guest) {
                    return seat;
                }
            }
            return NONE;
        }

        int mostOf(int guest) {
            int seat = seatOf(guest);
            return seat == NONE ? mostWithoutSeat() : countAt(seat);
        }

        int leastOf(int guest) {
            return leastAt(seatOf(guest));
        }

        int leastAt(int seat) {
            return countAt(seat) - excessAt(seat);
        }

        int mostWithoutSeat() {
            if (taken < seats) {
                return 0;
            }
            int least = countAt(0);
            for (int seat = 1; seat < taken; seat++) {
                least = Math.min(least, countAt(seat));
            }
            return least;
        }

        int sumOfCounts() {
            int sum = 0;
            for (int seat = 0; seat < taken; seat++) {
                sum += countAt(seat);
            }
            return sum;
        }

        int greatestExcess() {
            int greatest = 0;
            for (int seat = 0; seat < taken; seat++) {
                greatest = Math.max(greatest, excessAt(seat));
            }
            return greatest;
        }

        int surelyAbove(int share) {
            int number = 0;
            for (int seat = 0; seat < taken; seat++) {
                if (100 * leastAt(seat) > share) {
                    number++;
                }
            }
            return number;
        }

        int perhapsAbove(int share) {
            int number = 0;
            for (int seat = 0; seat < taken; seat++) {
                if (100 * countAt(seat) > share) {
                    number++;
                }
            }
            return number;
        }

        int seatFor(int guest) {
            int own = seatOf(guest);
            if (own != NONE) {
                return own;
            }
            return taken < seats ? taken : firstToGo();
        }

        int firstToGo() {
            int first = 0;
            for (int seat = 1; seat < taken; seat++) {
                if (goesBefore(seat, first)) {
                    first = seat;
                }
            }
            return first;
        }

        private boolean goesBefore(int seat, int other) {
            if (countAt(seat) != countAt(other)) {
                return countAt(seat) < countAt(other);
            }
            return excessAt(seat) > excessAt(other);
        }

        boolean isHeavier(int seat, int other) {
            if (countAt(seat) != countAt(other)) {
                return countAt(seat) > countAt(other);
            }
            if (excessAt(seat) != excessAt(other)) {
                return excessAt(seat) < excessAt(other);
            }
            return guestAt(seat) < guestAt(other);
        }

        /** The seat with just as many heavier ones as its place tells. */
        int seatAtPlace(int place) {
            for (int seat = 0; seat < taken; seat++) {
                if (heavierThan(seat) == place) {
                    return seat;
                }
            }
            return NONE;
        }

        private int heavierThan(int seat) {
            int number = 0;
            for (int other = 0; other < taken; other++) {
                if (isHeavier(other, seat)) {
                    number++;
                }
            }
            return number;
        }

        int placesInSureOrder() {
            int withoutSeat = mostWithoutSeat();
            int seat = seatAtPlace(0);
            for (int place = 0; place < taken; place++) {
                int next = seatAtPlace(place + 1);
                // Behind the last place there is no seat, and its count is told as 0.
                if (leastAt(seat) < Math.max(countAt(next), withoutSeat)) {
                    return place;
                }
                seat = next;
            }
            return taken;
        }

        /** Whether the seat was taken over from another guest. */
        boolean serve(int seat, int guest, int times) {
            if (!isTaken(seat)) {
                append(guest, times, 0);
                return false;
            }
            boolean isTakenOver = guests[seat] != guest;
            if (isTakenOver) {
                guests[seat] = guest;
                excesses[seat] = counts[seat];
            }
            counts[seat] += times;
            return isTakenOver;
        }

        private void append(int guest, int count, int excess) {
            if (taken < seats && taken >= 0 && taken < guests.length) {
                guests[taken] = guest;
                counts[taken] = count;
                excesses[taken] = excess;
                taken++;
            }
        }

        /** Appends the guest, and moves it up to its place among rows that are in the order of weight. */
        void insertByWeight(int guest, int count, int excess) {
            append(guest, count, excess);
            for (int seat = taken - 1; seat > 0 && isHeavier(seat, seat - 1); seat--) {
                swapWithFormer(seat);
            }
        }

        private void swapWithFormer(int seat) {
            if (!isTaken(seat) || !isTaken(seat - 1)) {
                return;
            }
            int guest = guests[seat];
            int count = counts[seat];
            int excess = excesses[seat];
            guests[seat] = guests[seat - 1];
            counts[seat] = counts[seat - 1];
            excesses[seat] = excesses[seat - 1];
            guests[seat - 1] = guest;
            counts[seat - 1] = count;
            excesses[seat - 1] = excess;
        }

        void clear() {
            taken = 0;
        }

        void replaceByFirstOf(Row other) {
            clear();
            for (int seat = 0; seat < seats && seat < other.taken; seat++) {
                append(other.guestAt(seat), other.countAt(seat), other.excessAt(seat));
            }
        }

        void changeSeats(int number) {
            seats = number;
            for (int left = taken; left > number; left--) {
                giveUp(firstToGo());
            }
        }

        private void giveUp(int seat) {
            if (!isTaken(seat)) {
                return;
            }
            for (int behind = seat + 1; behind < taken && behind < guests.length; behind++) {
                guests[behind - 1] = guests[behind];
                counts[behind - 1] = counts[behind];
                excesses[behind - 1] = excesses[behind];
            }
            taken--;
        }

        void halve() {
            int before = taken;
            clear();
            // The halves are written at or before where they are read, so none is lost. An excess
            // that was not above its count is not above it after both were halved, either.
            for (int seat = 0; seat < before && seat < guests.length; seat++) {
                if (counts[seat] / 2 > 0) {
                    append(guests[seat], counts[seat] / 2, excesses[seat] / 2);
                }
            }
        }
    }

    /** The true counts of a stream, always kept in the order in which truly() names the guests. */
    private static final class Tally {
        private final int[] guests = new int[MOST_UNLIKE_GUESTS];
        private final int[] counts = new int[MOST_UNLIKE_GUESTS];
        private int size;

        void copyFrom(Tally other) {
            System.arraycopy(other.guests, 0, guests, 0, guests.length);
            System.arraycopy(other.counts, 0, counts, 0, counts.length);
            size = other.size;
        }

        boolean hasPlace(int place) {
            return place >= 0 && place < size && place < guests.length;
        }

        int guestAt(int place) {
            return place >= 0 && place < size && place < guests.length ? guests[place] : 0;
        }

        int timesAt(int place) {
            return place >= 0 && place < size && place < counts.length ? counts[place] : 0;
        }

        int placeOf(int guest) {
            for (int place = 0; place < size; place++) {
                if (guestAt(place) == guest) {
                    return place;
                }
            }
            return NONE;
        }

        int timesOf(int guest) {
            return timesAt(placeOf(guest));
        }

        int trulyAbove(int share) {
            int number = 0;
            for (int place = 0; place < size; place++) {
                if (100 * timesAt(place) > share) {
                    number++;
                }
            }
            return number;
        }

        int unlikeGuestsWith(Tally other) {
            int number = size;
            for (int place = 0; place < other.size; place++) {
                if (placeOf(other.guestAt(place)) == NONE) {
                    number++;
                }
            }
            return number;
        }

        void add(int guest, int times) {
            int place = placeOf(guest);
            if (place == NONE) {
                append(guest, times);
                place = size - 1;
            } else if (hasPlace(place)) {
                counts[place] += times;
            }
            moveUp(place);
        }

        void addAllOf(Tally other) {
            for (int place = 0; place < other.size; place++) {
                add(other.guestAt(place), other.timesAt(place));
            }
        }

        private void append(int guest, int times) {
            if (size >= 0 && size < guests.length) {
                guests[size] = guest;
                counts[size] = times;
                size++;
            }
        }

        private void moveUp(int from) {
            if (!hasPlace(from)) {
                return;
            }
            int guest = guests[from];
            int times = counts[from];
            int place = from;
            while (place > 0 && (counts[place - 1] < times
                    || counts[place - 1] == times && guests[place - 1] > guest)) {
                guests[place] = guests[place - 1];
                counts[place] = counts[place - 1];
                place--;
            }
            guests[place] = guest;
            counts[place] = times;
        }

        void clear() {
            size = 0;
        }

        void halve() {
            int before = size;
            clear();
            // The halves are written before where the next one is read, so none is lost; those that
            // became alike are put in the order of their codes again.
            for (int place = 0; place < before && place < guests.length; place++) {
                if (counts[place] / 2 > 0) {
                    append(guests[place], counts[place] / 2);
                    moveUp(size - 1);
                }
            }
        }
    }

    private static final class Stream {
        private final Row row = new Row(SEATS_AT_FIRST);
        private final Tally tally = new Tally();
        private int total;
        private int takeovers;

        void copyFrom(Stream other) {
            row.copyFrom(other.row);
            tally.copyFrom(other.tally);
            total = other.total;
            takeovers = other.takeovers;
        }

        int errorOfComing(int guest, int times) {
            if (!isCode(guest) || times < 1 || times > MOST_TIMES) {
                return BAD_VALUE;
            }
            if (total + times > MOST_TOTAL) {
                return TOO_MANY;
            }
            boolean isNew = tally.placeOf(guest) == NONE;
            return isNew && tally.size >= MOST_UNLIKE_GUESTS ? TOO_MANY : NO_ERROR;
        }

        int letCome(int guest, int times) {
            int seat = row.seatFor(guest);
            if (row.serve(seat, guest, times)) {
                takeovers++;
            }
            tally.add(guest, times);
            total += times;
            return seat;
        }

        void halve() {
            row.halve();
            tally.halve();
            total /= 2;
        }

        void beginAnew() {
            row.clear();
            tally.clear();
            total = 0;
            takeovers = 0;
        }
    }

    /** What undo() and the slots bring back: everything except the pad. */
    private static final class State {
        private final Stream zero = new Stream();
        private final Stream one = new Stream();

        void copyFrom(State other) {
            zero.copyFrom(other.zero);
            one.copyFrom(other.one);
        }

        Stream streamOf(int number) {
            return number == 0 ? zero : one;
        }

        int seatsOfEach() {
            return zero.row.seats;
        }

        void changeSeats(int seats) {
            zero.row.changeSeats(seats);
            one.row.changeSeats(seats);
        }

        int errorOfJoining() {
            if (zero.total + one.total > MOST_TOTAL) {
                return TOO_MANY;
            }
            return zero.tally.unlikeGuestsWith(one.tally) > MOST_UNLIKE_GUESTS ? TOO_MANY : NO_ERROR;
        }

        void joinStreams(Row both) {
            both.clear();
            for (int seat = 0; seat < zero.row.taken; seat++) {
                insertJoined(both, zero.row.guestAt(seat));
            }
            for (int seat = 0; seat < one.row.taken; seat++) {
                int guest = one.row.guestAt(seat);
                if (zero.row.seatOf(guest) == NONE) {
                    insertJoined(both, guest);
                }
            }
            zero.row.replaceByFirstOf(both);
            zero.tally.addAllOf(one.tally);
            zero.total += one.total;
            one.beginAnew();
        }

        private void insertJoined(Row both, int guest) {
            int most = zero.row.mostOf(guest) + one.row.mostOf(guest);
            int least = zero.row.leastOf(guest) + one.row.leastOf(guest);
            both.insertByWeight(guest, most, most - least);
        }
    }

    private static final class Slot {
        private final State state = new State();
        private boolean isUsed;
    }

    /** The states before the latest changes, the oldest one first. */
    private static final class History {
        private final State[] states = new State[HISTORY_LENGTH];
        private int size;

        History() {
            for (int i = 0; i < states.length; i++) {
                states[i] = new State();
            }
        }

        void remember(State state) {
            if (size == states.length) {
                dropOldest();
            }
            if (size >= 0 && size < states.length) {
                states[size].copyFrom(state);
                size++;
            }
        }

        void bringBack(State state) {
            if (size > 0 && size <= states.length) {
                size--;
                state.copyFrom(states[size]);
            }
        }

        private void dropOldest() {
            // The dropped state goes to the end and is written anew there: no state is ever made again.
            State oldest = states[0];
            for (int i = 1; i < states.length; i++) {
                states[i - 1] = states[i];
            }
            states[states.length - 1] = oldest;
            size--;
        }
    }

    private static final class Pad {
        private final int[] signs = new int[PAD_LENGTH];
        private int length;

        int signAt(int index) {
            return index >= 0 && index < length && index < signs.length ? signs[index] : 0;
        }

        void append(int sign) {
            if (length >= 0 && length < signs.length) {
                signs[length] = sign;
                length++;
            }
        }
    }

    /** The order that is being read, sign by sign; fault() and carryOut() read by the same rules. */
    private static final class Order {
        private static final int COME = 0;
        private static final int AGE = 1;
        private static final int JOIN = 2;

        // How far the order is read.
        private static final int AT_START = 0;
        private static final int BEHIND_ARROW = 1;
        private static final int IN_NAME = 2;
        private static final int BEHIND_STAR = 3;
        private static final int IN_NUMBER = 4;
        private static final int BEHIND_PERCENT = 5;
        private static final int COMPLETE = 6;

        private int place;
        private int kind;
        private int stream;
        private int guest;
        private int letters;
        private int times;

        void begin() {
            place = AT_START;
            kind = COME;
            stream = 0;
            guest = 0;
            letters = 0;
            times = 1;
        }

        boolean mayEnd() {
            return place == IN_NAME || place == IN_NUMBER || place == COMPLETE;
        }

        /** Whether the sign can stand at its place; only then it is read. */
        boolean read(int sign) {
            if (sign == ';') {
                return readEnd();
            }
            switch (place) {
                case AT_START:
                    return readStart(sign);
                case BEHIND_ARROW:
                    return readLetter(sign);
                case IN_NAME:
                    return sign == '*' ? readStar() : readLetter(sign);
                case BEHIND_STAR:
                    return readFirstDigit(sign);
                case IN_NUMBER:
                    return readDigit(sign);
                case BEHIND_PERCENT:
                    return readAgeing(sign);
                default:
                    return false;
            }
        }

        private boolean readEnd() {
            if (!mayEnd()) {
                return false;
            }
            begin();
            return true;
        }

        private boolean readStart(int sign) {
            switch (sign) {
                case '>':
                    stream = 1;
                    place = BEHIND_ARROW;
                    return true;
                case '%':
                    kind = AGE;
                    place = BEHIND_PERCENT;
                    return true;
                case '&':
                    kind = JOIN;
                    place = COMPLETE;
                    return true;
                default:
                    return readLetter(sign);
            }
        }

        private boolean readLetter(int sign) {
            if (sign < 'a' || sign > 'z' || letters >= MOST_LETTERS) {
                return false;
            }
            guest = CODE_BASE * guest + (sign - 'a' + 1);
            letters++;
            place = IN_NAME;
            return true;
        }

        private boolean readStar() {
            place = BEHIND_STAR;
            return true;
        }

        private boolean readFirstDigit(int sign) {
            if (!isDigit(sign)) {
                return false;
            }
            times = sign - '0';
            place = IN_NUMBER;
            return true;
        }

        private boolean readDigit(int sign) {
            // A number that begins with 0 is 0, as leading zeros are not allowed.
            if (!isDigit(sign) || times == 0 || 10 * times + (sign - '0') > MOST_TIMES) {
                return false;
            }
            times = 10 * times + (sign - '0');
            return true;
        }

        private boolean readAgeing(int sign) {
            if (sign != '0' && sign != '1') {
                return false;
            }
            stream = sign - '0';
            place = COMPLETE;
            return true;
        }

        private static boolean isDigit(int sign) {
            return sign >= '0' && sign <= '9';
        }
    }
}
