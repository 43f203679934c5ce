import java.util.stream.IntStream;

/** Counts the answers that are not due, and helps to write calls down. */
final class Checks {
    private int done;
    private int wrong;

    void due(String call, long got, long want) {
        done++;
        if (got != want) {
            wrong++;
            System.out.println(call + " answered " + got + ", due is " + want);
        }
    }

    /** Several answers at once, so that a row of seats or places reads as a row. */
    void dueRow(String call, int[] got, int... want) {
        done++;
        if (!java.util.Arrays.equals(got, want)) {
            wrong++;
            System.out.println(call + " answered " + java.util.Arrays.toString(got)
                    + ", due is " + java.util.Arrays.toString(want));
        }
    }

    void holds(String what, boolean itDoes) {
        due(what, itDoes ? 1 : 0, 1);
    }

    void finish() {
        System.out.println(wrong == 0 ? done + " answers are as due" : wrong + " of " + done + " answers are not as due");
        if (wrong != 0 || done == 0) {
            System.exit(1);
        }
    }

    /** The code of a name. */
    static int code(String name) {
        int code = 0;
        for (int i = 0; i < name.length(); i++) {
            code = 27 * code + (name.charAt(i) - 'a' + 1);
        }
        return code;
    }

    /** The unlike codes a, b, .. z, aa, ab, ..: the one with this number. */
    static int codeNumber(int number) {
        return number < 26 ? number + 1 : 27 * (number / 26) + number % 26 + 1;
    }

    /** Up to 8 characters as put() takes them. */
    static long packed(String text) {
        long characters = 0;
        for (int i = 0; i < text.length(); i++) {
            characters = characters << 8 | text.charAt(i);
        }
        return characters;
    }

    /** Puts a text of any length, and answers what the last put() answered. */
    static int put(HeavyGuests x, String text) {
        int answer = 0;
        for (int i = 0; i < text.length() && answer >= 0; i += 8) {
            answer = x.put(packed(text.substring(i, Math.min(text.length(), i + 8))));
        }
        return answer;
    }

    /** Puts a text and carries it out. */
    static int carryOut(HeavyGuests x, String text) {
        put(x, text);
        return x.carryOut();
    }

    /** Guest, count, excess and true count of each taken seat of a stream, one seat after the other. */
    static int[] row(HeavyGuests x, int stream) {
        int[] row = new int[4 * x.stream(stream, 1)];
        for (int i = 0; i < row.length; i++) {
            row[i] = x.seat(stream, i / 4, i % 4);
        }
        return row;
    }

    /** All seven numbers of a stream. */
    static int[] numbers(HeavyGuests x, int stream) {
        int[] numbers = new int[7];
        for (int i = 0; i < numbers.length; i++) {
            numbers[i] = x.stream(stream, i);
        }
        return numbers;
    }

    /** Code and true count of all who came to a stream, by truly(). */
    static int[] tally(HeavyGuests x, int stream) {
        int[] tally = new int[2 * x.stream(stream, 2)];
        for (int i = 0; i < tally.length / 2; i++) {
            tally[2 * i] = x.truly(stream, i);
            tally[2 * i + 1] = x.of(stream, tally[2 * i], 3);
        }
        return tally;
    }

    /**
     * All that an object answers without a change, at most 400 calls: a place that is left free, the
     * three counts, the fault, and both streams with their seats, true counts, order and sure order.
     */
    static int[] seen(HeavyGuests x) {
        IntStream seen = IntStream.of(0, x.count(0), x.count(1), x.count(2), x.fault());
        for (int stream = 0; stream < 2; stream++) {
            seen = IntStream.concat(seen, IntStream.of(numbers(x, stream)));
            seen = IntStream.concat(seen, IntStream.of(row(x, stream)));
            seen = IntStream.concat(seen, IntStream.of(tally(x, stream)));
            seen = IntStream.concat(seen, IntStream.of(heaviest(x, stream)));
            seen = IntStream.concat(seen, IntStream.of(x.sureOrder(stream)));
        }
        return seen.toArray();
    }

    /** The codes by heaviest(). */
    static int[] heaviest(HeavyGuests x, int stream) {
        int[] codes = new int[x.stream(stream, 1)];
        for (int i = 0; i < codes.length; i++) {
            codes[i] = x.heaviest(stream, i);
        }
        return codes;
    }
}
