/** Many runs of 512 calls each, made up by a fixed rule, whose answers are compared with PlainGuests. */
public final class RunsTest {
    private static final int RUNS = 3000;
    private static final int CALLS = 512;
    private static final int[] ODD_NUMBERS = {-1, 2, 3, 4, 5, 6, 7, 12, 13, 24, 27, 54, 59, 60, 61, 100, 101, 999, 1000,
        531440, 531441, Integer.MIN_VALUE, Integer.MAX_VALUE};

    private static final Checks checks = new Checks();

    private long seed;
    private int pool;
    private int mostTimes;
    private int quiet;
    private HeavyGuests x;
    private PlainGuests plain;

    public static void main(String[] args) {
        RunsTest test = new RunsTest();
        for (int run = 0; run < RUNS; run++) {
            test.run(run);
        }
        checks.finish();
    }

    private void run(int run) {
        seed = 1000003L * run + 17;
        x = new HeavyGuests();
        plain = new PlainGuests();
        pool = new int[] {3, 6, 14, 40, 75}[below(5)];
        mostTimes = new int[] {2, 5, 30, 999}[below(4)];
        quiet = below(3);
        for (int call = 0; call < CALLS; call++) {
            if (below(3) < quiet) {
                ask("run " + run + ", call " + call + ": ");
            } else {
                change("run " + run + ", call " + call + ": ");
            }
        }
    }

    /** A number from 0 to limit - 1, by a rule that is the same every time. */
    private int below(int limit) {
        seed = seed * 6364136223846793005L + 1442695040888963407L;
        return (int) ((seed >>> 33) % limit);
    }

    private int oddOr(int number) {
        return below(40) == 0 ? ODD_NUMBERS[below(ODD_NUMBERS.length)] : number;
    }

    private int guest() {
        return oddOr(Checks.codeNumber(below(pool)));
    }

    private void change(String at) {
        int kind = below(100);
        int stream = oddOr(below(2));
        if (kind < 62) {
            int guest = guest();
            int times = oddOr(1 + below(mostTimes));
            checks.due(at + "come(" + stream + ", " + guest + ", " + times + ")",
                    x.come(stream, guest, times), plain.come(stream, guest, times));
        } else if (kind < 66) {
            int seats = oddOr(1 + below(12));
            checks.due(at + "seats(" + seats + ")", x.seats(seats), plain.seats(seats));
        } else if (kind < 69) {
            checks.due(at + "age(" + stream + ")", x.age(stream), plain.age(stream));
        } else if (kind < 73) {
            checks.due(at + "join()", x.join(), plain.join());
        } else if (kind < 85) {
            text(at);
        } else if (kind < 93) {
            checks.due(at + "undo()", x.undo(), plain.undo());
        } else if (kind < 96) {
            int slot = oddOr(below(2));
            checks.due(at + "save(" + slot + ")", x.save(slot), plain.save(slot));
        } else if (kind < 98) {
            int slot = oddOr(below(2));
            checks.due(at + "restore(" + slot + ")", x.restore(slot), plain.restore(slot));
        } else {
            checks.due(at + "wipe()", x.wipe(), plain.wipe());
        }
    }

    private void text(String at) {
        int kind = below(6);
        if (kind == 0) {
            checks.due(at + "carryOut()", x.carryOut(), plain.carryOut());
        } else if (kind == 1) {
            checks.due(at + "fault()", x.fault(), plain.fault());
        } else if (kind == 2) {
            long characters = Checks.packed(";") << (8 * below(8)) | (long) below(256) << (8 * below(8));
            checks.due(at + "put(" + characters + ")", x.put(characters), plain.put(characters));
        } else {
            long characters = Checks.packed(piece());
            checks.due(at + "put(" + characters + ")", x.put(characters), plain.put(characters));
        }
    }

    /** Mostly an order or two that can stand, cut to what one put() takes. */
    private String piece() {
        StringBuilder piece = new StringBuilder(below(4) == 0 ? "" : plain.count(1) > 0 ? ";" : "");
        for (int i = below(2); i >= 0; i--) {
            piece.append(order()).append(i > 0 ? ";" : "");
        }
        if (below(12) == 0) {
            piece.insert(below(piece.length() + 1), ">ab*019;%&Z".charAt(below(11)));
        }
        return piece.substring(0, Math.min(8, piece.length()));
    }

    private String order() {
        int kind = below(12);
        if (kind == 0) {
            return "%" + below(2);
        }
        if (kind == 1) {
            return "&";
        }
        StringBuilder order = new StringBuilder(below(3) == 0 ? ">" : "");
        for (int rest = Checks.codeNumber(below(pool)); rest > 0; rest /= 27) {
            order.append((char) ('a' - 1 + rest % 27));
        }
        if (below(2) == 0) {
            order.append('*').append(below(30) == 0 ? 0 : 1 + below(mostTimes));
        }
        return order.toString();
    }

    private void ask(String at) {
        int stream = oddOr(below(2));
        int place = oddOr(below(14));
        int guest = guest();
        int what = oddOr(below(7));
        switch (below(10)) {
            case 0:
                checks.due(at + "seat(" + stream + ", " + place + ", " + what % 5 + ")",
                        x.seat(stream, place, what % 5), plain.seat(stream, place, what % 5));
                break;
            case 1:
                checks.due(at + "of(" + stream + ", " + guest + ", " + what + ")",
                        x.of(stream, guest, what), plain.of(stream, guest, what));
                break;
            case 2:
                checks.due(at + "stream(" + stream + ", " + what + ")", x.stream(stream, what), plain.stream(stream, what));
                break;
            case 3:
                checks.due(at + "count(" + what + ")", x.count(what), plain.count(what));
                break;
            case 4:
                int hundredths = oddOr(below(below(2) == 0 ? 101 : 20));
                checks.due(at + "above(" + stream + ", " + hundredths + ", " + what % 4 + ")",
                        x.above(stream, hundredths, what % 4), plain.above(stream, hundredths, what % 4));
                break;
            case 5:
                checks.due(at + "heaviest(" + stream + ", " + place + ")",
                        x.heaviest(stream, place), plain.heaviest(stream, place));
                break;
            case 6:
                int number = oddOr(below(62));
                checks.due(at + "truly(" + stream + ", " + number + ")", x.truly(stream, number), plain.truly(stream, number));
                break;
            case 7:
                checks.due(at + "sureOrder(" + stream + ")", x.sureOrder(stream), plain.sureOrder(stream));
                break;
            case 8:
                checks.due(at + "wouldTake(" + stream + ", " + guest + ")",
                        x.wouldTake(stream, guest), plain.wouldTake(stream, guest));
                break;
            default:
                checks.due(at + "doubt(" + stream + ", " + guest + ")", x.doubt(stream, guest), plain.doubt(stream, guest));
        }
    }
}
