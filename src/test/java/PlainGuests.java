import java.util.ArrayDeque;
import java.util.ArrayList;
import java.util.Comparator;
import java.util.Deque;
import java.util.List;
import java.util.Map;
import java.util.Set;
import java.util.TreeMap;
import java.util.TreeSet;
import java.util.regex.Matcher;
import java.util.regex.Pattern;

/**
 * The document once more, said as plainly as the Java library lets it be said, to compare with: states
 * are copied whole, texts are read by regular expressions, and nothing is kept that can be found anew.
 */
final class PlainGuests {
    private static final int NO_SUCH = -1, BAD_VALUE = -2, BAD_TEXT = -3, TOO_MANY = -4, NOT_POSSIBLE = -5, NONE = -6;

    private static final String ORDER = "(?:(>?)([a-z]{1,4})(?:\\*(0|[1-9][0-9]{0,2}))?|%([01])|(&))";
    private static final Pattern ONE_ORDER = Pattern.compile(ORDER);
    private static final Pattern TEXT = Pattern.compile(ORDER + "(?:;" + ORDER + ")*");

    private record Seat(int guest, int count, int excess) {
        int least() {
            return count - excess;
        }
    }

    private static final Comparator<Seat> TAKEN_OVER_FIRST =
            Comparator.comparingInt(Seat::count).thenComparing(Comparator.comparingInt(Seat::excess).reversed());
    private static final Comparator<Seat> HEAVIEST_FIRST = Comparator.comparingInt(Seat::count).reversed()
            .thenComparingInt(Seat::excess).thenComparingInt(Seat::guest);

    private static final class Side {
        private List<Seat> seats = new ArrayList<>();
        private Map<Integer, Integer> truth = new TreeMap<>();
        private int total;
        private int takeovers;

        Side copy() {
            Side copy = new Side();
            copy.seats = new ArrayList<>(seats);
            copy.truth = new TreeMap<>(truth);
            copy.total = total;
            copy.takeovers = takeovers;
            return copy;
        }

        Seat seatOf(int guest) {
            return seats.stream().filter(seat -> seat.guest == guest).findFirst().orElse(null);
        }

        Seat takenOverFirst() {
            // min() keeps the first one of those alike: the lowest number.
            return seats.stream().reduce((a, b) -> TAKEN_OVER_FIRST.compare(b, a) < 0 ? b : a).orElseThrow();
        }
    }

    private static final class Whole {
        private int limit = 4;
        private Side[] sides = {new Side(), new Side()};

        Whole copy() {
            Whole copy = new Whole();
            copy.limit = limit;
            copy.sides = new Side[] {sides[0].copy(), sides[1].copy()};
            return copy;
        }

        boolean allTaken(int stream) {
            return sides[stream].seats.size() == limit;
        }

        int outside(int stream) {
            return allTaken(stream) ? sides[stream].takenOverFirst().count : 0;
        }

        int most(int stream, int guest) {
            Seat seat = sides[stream].seatOf(guest);
            return seat == null ? outside(stream) : seat.count;
        }

        int least(int stream, int guest) {
            Seat seat = sides[stream].seatOf(guest);
            return seat == null ? 0 : seat.least();
        }
    }

    private Whole whole = new Whole();
    private final Deque<Whole> history = new ArrayDeque<>();
    private final Whole[] slots = new Whole[2];
    private String pad = "";

    private void record() {
        history.addLast(whole.copy());
        if (history.size() > 6) {
            history.removeFirst();
        }
    }

    private static boolean noStream(int stream) {
        return stream != 0 && stream != 1;
    }

    private static String name(int code) {
        StringBuilder name = new StringBuilder();
        for (int rest = code; rest > 0; rest /= 27) {
            name.insert(0, (char) ('a' - 1 + rest % 27));
        }
        return name.toString();
    }

    private static boolean noCode(int guest) {
        return !name(guest).matches("[a-z]{1,4}");
    }

    int seats(int seats) {
        if (seats < 1 || seats > 12) {
            return BAD_VALUE;
        }
        record();
        int before = whole.limit;
        whole.limit = seats;
        for (Side side : whole.sides) {
            while (side.seats.size() > seats) {
                side.seats.remove(side.takenOverFirst());
            }
        }
        return before;
    }

    int come(int stream, int guest, int times) {
        Whole before = whole.copy();
        int answer = comeUnrecorded(stream, guest, times);
        if (answer >= 0) {
            recordThat(before);
        }
        return answer;
    }

    private void recordThat(Whole before) {
        Whole after = whole;
        whole = before;
        record();
        whole = after;
    }

    private int comeUnrecorded(int stream, int guest, int times) {
        if (noStream(stream)) {
            return NO_SUCH;
        }
        if (noCode(guest) || times < 1 || times > 999) {
            return BAD_VALUE;
        }
        Side side = whole.sides[stream];
        if (side.truth.size() == 60 && !side.truth.containsKey(guest) || side.total + times > 99999) {
            return TOO_MANY;
        }
        int number = wouldTake(stream, guest);
        if (number == side.seats.size()) {
            side.seats.add(new Seat(guest, times, 0));
        } else {
            Seat seat = side.seats.get(number);
            if (seat.guest == guest) {
                side.seats.set(number, new Seat(guest, seat.count + times, seat.excess));
            } else {
                side.seats.set(number, new Seat(guest, seat.count + times, seat.count));
                side.takeovers++;
            }
        }
        side.total += times;
        side.truth.merge(guest, times, Integer::sum);
        return number;
    }

    int age(int stream) {
        if (noStream(stream)) {
            return NO_SUCH;
        }
        record();
        return ageUnrecorded(stream);
    }

    private int ageUnrecorded(int stream) {
        Side side = whole.sides[stream];
        side.total /= 2;
        side.seats.replaceAll(seat ->
                new Seat(seat.guest, seat.count / 2, Math.min(seat.excess / 2, seat.count / 2)));
        side.seats.removeIf(seat -> seat.count == 0);
        side.truth.replaceAll((guest, times) -> times / 2);
        side.truth.values().removeIf(times -> times == 0);
        return side.total;
    }

    int join() {
        Whole before = whole.copy();
        int answer = joinUnrecorded();
        if (answer >= 0) {
            recordThat(before);
        }
        return answer;
    }

    private int joinUnrecorded() {
        Side zero = whole.sides[0];
        Side one = whole.sides[1];
        Set<Integer> unlike = new TreeSet<>(zero.truth.keySet());
        unlike.addAll(one.truth.keySet());
        if (unlike.size() > 60 || zero.total + one.total > 99999) {
            return TOO_MANY;
        }
        Set<Integer> seated = new TreeSet<>();
        zero.seats.forEach(seat -> seated.add(seat.guest));
        one.seats.forEach(seat -> seated.add(seat.guest));
        List<Seat> joined = new ArrayList<>();
        for (int guest : seated) {
            int most = whole.most(0, guest) + whole.most(1, guest);
            joined.add(new Seat(guest, most, most - whole.least(0, guest) - whole.least(1, guest)));
        }
        joined.sort(HEAVIEST_FIRST);
        zero.seats = new ArrayList<>(joined.subList(0, Math.min(whole.limit, joined.size())));
        zero.total += one.total;
        one.truth.forEach((guest, times) -> zero.truth.merge(guest, times, Integer::sum));
        whole.sides[1] = new Side();
        return zero.seats.size();
    }

    int seat(int stream, int seat, int what) {
        if (noStream(stream) || seat < 0 || seat >= whole.sides[stream].seats.size()) {
            return NO_SUCH;
        }
        if (what < 0 || what > 3) {
            return BAD_VALUE;
        }
        Seat asked = whole.sides[stream].seats.get(seat);
        return new int[] {asked.guest, asked.count, asked.excess, of(stream, asked.guest, 3)}[what];
    }

    int of(int stream, int guest, int what) {
        if (noStream(stream)) {
            return NO_SUCH;
        }
        if (noCode(guest) || what < 0 || what > 4) {
            return BAD_VALUE;
        }
        Side side = whole.sides[stream];
        Seat seat = side.seatOf(guest);
        return new int[] {seat == null ? NONE : side.seats.indexOf(seat), whole.most(stream, guest),
            whole.least(stream, guest), side.truth.getOrDefault(guest, 0), name(guest).length()}[what];
    }

    int stream(int stream, int what) {
        if (noStream(stream)) {
            return NO_SUCH;
        }
        if (what < 0 || what > 6) {
            return BAD_VALUE;
        }
        Side side = whole.sides[stream];
        return new int[] {side.total, side.seats.size(), side.truth.size(), whole.outside(stream),
            side.seats.stream().mapToInt(Seat::count).sum(), side.seats.stream().mapToInt(Seat::excess).max().orElse(0),
            side.takeovers}[what];
    }

    int count(int what) {
        if (what < 0 || what > 2) {
            return BAD_VALUE;
        }
        return new int[] {whole.limit, pad.length(), history.size()}[what];
    }

    int above(int stream, int hundredths, int what) {
        if (noStream(stream)) {
            return NO_SUCH;
        }
        if (hundredths < 0 || hundredths > 100 || what < 0 || what > 2) {
            return BAD_VALUE;
        }
        Side side = whole.sides[stream];
        List<Integer> numbers = new ArrayList<>();
        if (what == 2) {
            numbers.addAll(side.truth.values());
        } else {
            side.seats.forEach(seat -> numbers.add(what == 0 ? seat.least() : seat.count));
        }
        return (int) numbers.stream().filter(number -> 100L * number > (long) hundredths * side.total).count();
    }

    private List<Seat> byWeight(int stream) {
        List<Seat> sorted = new ArrayList<>(whole.sides[stream].seats);
        sorted.sort(HEAVIEST_FIRST);
        return sorted;
    }

    int heaviest(int stream, int place) {
        if (noStream(stream) || place < 0 || place >= whole.sides[stream].seats.size()) {
            return NO_SUCH;
        }
        return byWeight(stream).get(place).guest;
    }

    int truly(int stream, int place) {
        if (noStream(stream) || place < 0 || place >= whole.sides[stream].truth.size()) {
            return NO_SUCH;
        }
        List<Map.Entry<Integer, Integer>> sorted = new ArrayList<>(whole.sides[stream].truth.entrySet());
        // The map tells the codes in their order, and sorting keeps it among those alike.
        sorted.sort((a, b) -> b.getValue() - a.getValue());
        return sorted.get(place).getKey();
    }

    int sureOrder(int stream) {
        if (noStream(stream)) {
            return NO_SUCH;
        }
        List<Seat> sorted = byWeight(stream);
        for (int n = sorted.size(); n > 0; n--) {
            boolean isSure = true;
            for (int i = 0; i < n; i++) {
                isSure &= i + 1 == sorted.size() || sorted.get(i).least() >= sorted.get(i + 1).count;
                isSure &= sorted.get(i).least() >= whole.outside(stream);
            }
            if (isSure) {
                return n;
            }
        }
        return 0;
    }

    int wouldTake(int stream, int guest) {
        if (noStream(stream)) {
            return NO_SUCH;
        }
        if (noCode(guest)) {
            return BAD_VALUE;
        }
        Side side = whole.sides[stream];
        Seat own = side.seatOf(guest);
        if (own == null && !whole.allTaken(stream)) {
            return side.seats.size();
        }
        return side.seats.indexOf(own == null ? side.takenOverFirst() : own);
    }

    int doubt(int stream, int guest) {
        int error = wouldTake(stream, guest);
        return error < 0 ? error : whole.most(stream, guest) - whole.least(stream, guest);
    }

    int put(long characters) {
        StringBuilder text = new StringBuilder();
        for (int shift = 56; shift >= 0; shift -= 8) {
            int character = (int) (characters >> shift) & 255;
            if (character != 0 || text.length() > 0) {
                text.append((char) character);
            }
        }
        if (!text.toString().matches("[!-~]{1,8}")) {
            return BAD_VALUE;
        }
        if (pad.length() + text.length() > 80) {
            return TOO_MANY;
        }
        pad += text;
        return pad.length();
    }

    int wipe() {
        int before = pad.length();
        pad = "";
        return before;
    }

    int fault() {
        for (int length = 1; length <= pad.length(); length++) {
            Matcher matcher = TEXT.matcher(pad.substring(0, length));
            // What is no text, and with no more characters could become one, has its fault at the end.
            if (!matcher.matches() && !matcher.hitEnd()) {
                return length - 1;
            }
        }
        return TEXT.matcher(pad).matches() ? NONE : pad.length();
    }

    int carryOut() {
        if (!TEXT.matcher(pad).matches()) {
            return BAD_TEXT;
        }
        record();
        int done = 0;
        for (String text : pad.split(";")) {
            if (carryOut(text) < 0) {
                break;
            }
            done++;
        }
        pad = "";
        return done;
    }

    private int carryOut(String text) {
        Matcher order = ONE_ORDER.matcher(text);
        if (!order.matches()) {
            throw new IllegalStateException(text);
        }
        if (order.group(5) != null) {
            return joinUnrecorded();
        }
        if (order.group(4) != null) {
            return ageUnrecorded(Integer.parseInt(order.group(4)));
        }
        int times = order.group(3) == null ? 1 : Integer.parseInt(order.group(3));
        return comeUnrecorded(order.group(1).length(), Checks.code(order.group(2)), times);
    }

    int undo() {
        if (history.isEmpty()) {
            return NOT_POSSIBLE;
        }
        whole = history.removeLast();
        return history.size();
    }

    int save(int slot) {
        if (slot != 0 && slot != 1) {
            return BAD_VALUE;
        }
        slots[slot] = whole.copy();
        return whole.sides[0].total;
    }

    int restore(int slot) {
        if (slot != 0 && slot != 1) {
            return BAD_VALUE;
        }
        if (slots[slot] == null) {
            return NOT_POSSIBLE;
        }
        record();
        whole = slots[slot].copy();
        return whole.sides[0].total;
    }
}
