/** Promises 16 to 19 and "Texts": a test for each sentence that names a boundary, with its words. */
public final class BoundsOfTextsTest {
    private static final int PAD = 80;
    private static final String LETTERS = "abcdefghijklmnopqrstuvwxyz";
    private static final String DIGITS = "0123456789";

    private static final Checks checks = new Checks();
    private static final Refusals refusals = new Refusals(checks);

    public static void main(String[] args) {
        putOneToEight();
        putEachCode();
        putNothingAboveNoCharacter();
        putInTheirOrder();
        putUpToEighty();
        putErrorsInOrder();
        wipeAnyLength();
        faultOfEachCharacter();
        faultAtEachIndex();
        faultOfAnEmptyText();
        faultChangesNothing();
        carryOutAFault();
        carryOutSoManyTimes();
        carryOutEachKind();
        carryOutNames();
        carryOutUpToTheFirstError();
        carryOutTheSixtyFirst();
        carryOutAboveTheGreatestTotal();
        carryOutAJoinOfTooMany();
        carryOutTheMostOrders();
        carryOutIsOneChange();
        checks.finish();
    }

    private static HeavyGuests withPad(String text) {
        HeavyGuests x = new HeavyGuests();
        Checks.put(x, text);
        return x;
    }

    private static HeavyGuests inUseWithPad(String text) {
        return Refusals.inUse(true, true, text);
    }

    /** put: "characters: 1 to 8 characters"; "Returns the length of the pad then". */
    private static void putOneToEight() {
        HeavyGuests x = new HeavyGuests();
        int length = 0;
        for (int number = 1; number <= 8; number++) {
            length += number;
            checks.due(number + " characters", x.put(Checks.packed("abcdefgh".substring(0, number))), length);
            checks.due("the length of the pad", x.count(1), length);
        }
        refusals.always("put(0)", y -> y.put(0), HeavyGuests.BAD_VALUE);
    }

    /** put: "BAD_VALUE if .. a code is not 33 to 126": each code at each place of each number of characters. */
    private static void putEachCode() {
        for (int number = 1; number <= 8; number++) {
            for (int place = 0; place < number; place++) {
                for (int code = 1; code < 256; code++) {
                    long characters = Checks.packed("aaaaaaaa".substring(0, number)) & ~(255L << (8 * place))
                            | (long) code << (8 * place);
                    HeavyGuests x = new HeavyGuests();
                    boolean fits = code >= 33 && code <= 126;
                    checks.due("put " + Long.toHexString(characters), x.put(characters), fits ? number : HeavyGuests.BAD_VALUE);
                    checks.due("pad", x.count(1), fits ? number : 0);
                }
            }
        }
        for (long code : new long[] {1, 31, 32, 127, 128, 255}) {
            refusals.always("put(" + code + ")", x -> x.put(code), HeavyGuests.BAD_VALUE);
            refusals.always("a, then " + code, x -> x.put('a' << 8 | code), HeavyGuests.BAD_VALUE);
            refusals.always(code + " first", x -> x.put(code << 56 | Checks.packed("aaaaaaa")), HeavyGuests.BAD_VALUE);
        }
    }

    /** put: "8 bits that are 0 mean that there are no more characters, and everything above them has to be 0, too". */
    private static void putNothingAboveNoCharacter() {
        for (int zeros = 0; zeros < 8; zeros++) {
            for (int bit = 8 * zeros + 8; bit < 64; bit++) {
                long below = Checks.packed("aaaaaaa".substring(0, zeros));
                long characters = below | 1L << bit;
                refusals.in("in use", Refusals::inUse, "put " + Long.toHexString(characters), x -> x.put(characters),
                        HeavyGuests.BAD_VALUE);
            }
        }
        for (int place = 0; place < 7; place++) {
            long characters = Checks.packed("aaaaaaaa") & ~(255L << (8 * place));
            refusals.always("put " + Long.toHexString(characters), x -> x.put(characters), HeavyGuests.BAD_VALUE);
        }
        for (long characters : new long[] {-1, Long.MIN_VALUE, Long.MAX_VALUE, Long.MIN_VALUE | 'a', 1L << 32 | 'a'}) {
            refusals.always("put(" + characters + ")", x -> x.put(characters), HeavyGuests.BAD_VALUE);
        }
    }

    /** put: "its lowest 8 bits are the last character, the next 8 bits the one before, and so on". */
    private static void putInTheirOrder() {
        HeavyGuests x = new HeavyGuests();
        x.put(Checks.packed("abcd*123"));
        checks.due("carried out", x.carryOut(), 1);
        checks.dueRow("eight characters", Checks.row(x, 0), Checks.code("abcd"), 123, 0, 123);
        HeavyGuests y = new HeavyGuests();
        for (char character : "xyz*45".toCharArray()) {
            y.put(character);
        }
        checks.due("carried out", y.carryOut(), 1);
        checks.dueRow("one by one", Checks.row(y, 0), Checks.code("xyz"), 45, 0, 45);
    }

    /** put: "TOO_MANY if the pad would be longer than 80"; "The pad is a text of at most 80 characters". */
    private static void putUpToEighty() {
        for (int number = 1; number <= 8; number++) {
            long characters = Checks.packed("bbbbbbbb".substring(0, number));
            for (int length = PAD - 9; length <= PAD; length++) {
                String text = "a".repeat(length);
                String told = length + " and " + number + " more";
                if (length + number <= PAD) {
                    HeavyGuests x = withPad(text);
                    checks.due(told, x.put(characters), length + number);
                    checks.due(told, x.count(1), length + number);
                } else {
                    refusals.in(told, () -> inUseWithPad(text), "put", x -> x.put(characters), HeavyGuests.TOO_MANY);
                    String orders = "a;".repeat(length / 2) + "b".repeat(length % 2);
                    refusals.in(told, () -> inUseWithPad(orders), "put", x -> x.put(characters), HeavyGuests.TOO_MANY);
                }
            }
        }
    }

    /** put: BAD_VALUE is checked ahead of TOO_MANY. */
    private static void putErrorsInOrder() {
        for (long characters : new long[] {0, 32, 127, -1, 0x6100, 0x20_61_61_61_61_61_61_61L, 0x7f_61L, 0x61_00_61L}) {
            refusals.in("full", () -> inUseWithPad("a".repeat(PAD)), "put " + Long.toHexString(characters),
                    x -> x.put(characters), HeavyGuests.BAD_VALUE);
            refusals.in("nearly full", () -> inUseWithPad("a".repeat(PAD - 1)), "put " + Long.toHexString(characters),
                    x -> x.put(characters), HeavyGuests.BAD_VALUE);
        }
    }

    /** wipe: "Empties the pad, and returns the length that it had": empty to full. */
    private static void wipeAnyLength() {
        for (int length = 0; length <= PAD; length++) {
            HeavyGuests x = withPad("a".repeat(length));
            checks.due("wipe of " + length, x.wipe(), length);
            checks.due("an empty pad", x.count(1), 0);
            checks.due("no change", x.count(2), 0);
            checks.due("wipe again", x.wipe(), 0);
            checks.due("put again", x.put('b'), 1);
            checks.due("nothing is left", x.carryOut(), 1);
            checks.due("only what was put again", x.heaviest(0, 0), 2);
        }
    }

    /**
     * fault: "the index of the first character that cannot stand at its place": each character behind
     * each kind of beginning. "also of a fifth letter, or a digit by which a number would be above 999";
     * "A number is 0 to 999, without leading zeros, a digit 0 or 1"; "A name (of 1 to 4 letters)".
     */
    private static void faultOfEachCharacter() {
        String[][] begun = {
            // what can stand next, then texts behind which just that can stand
            {LETTERS + ">%&", "", "a;", "abcd;", ">b;", "a*0;", "a*999;", "%0;", "%1;", "&;", "&;%1;a*10;"},
            {LETTERS, ">", "a;>", "a*12;>"},
            {LETTERS + "*;", "a", "z", "ab", "abc", ">a", ">xyz", "a;b", "a;>bcd"},
            {"*;", "abcd", ">abcd", "zzzz", "a;abcd", "abcd;>wxyz"},
            {DIGITS, "a*", "abcd*", ">a*", "a*5;b*"},
            {";", "a*0", ">abcd*0", "a*5;b*0"},
            {DIGITS + ";", "a*1", "a*5", "a*9", "a*10", "a*19", "a*90", "a*99", ">abcd*50"},
            {";", "a*100", "a*101", "a*109", "a*110", "a*199", "a*900", "a*990", "a*998", "a*999", ">abcd*500"},
            {"01", "%", "a;%", "%0;%"},
            {";", "%0", "%1", "&", "a;%1", "&;&"}};
        for (String[] row : begun) {
            for (int i = 1; i < row.length; i++) {
                boolean mayEnd = row[0].contains(";");
                checks.due("fault of " + row[i], withPad(row[i]).fault(), mayEnd ? HeavyGuests.NONE : row[i].length());
                for (char character = 33; character <= 126; character++) {
                    faultBehind(row[i], character, row[0].indexOf(character) >= 0);
                }
            }
        }
    }

    private static void faultBehind(String begun, char character, boolean canStand) {
        String text = begun + character;
        int due = begun.length();
        if (canStand) {
            // What ends in one of these is not complete.
            due = ";*>%".indexOf(character) >= 0 ? text.length() : HeavyGuests.NONE;
        }
        checks.due("fault of " + text, withPad(text).fault(), due);
        if (!canStand) {
            checks.due("fault of " + text + "!", withPad(text + "!").fault(), due);
            checks.due("fault of " + text + ";a", withPad(text + ";a").fault(), due);
        }
    }

    /** fault: the first and the last index of a full pad, and each one between. */
    private static void faultAtEachIndex() {
        String text = "a;".repeat(39) + "ab";
        checks.due("no fault", withPad(text).fault(), HeavyGuests.NONE);
        checks.due("a full pad that ends too early", withPad("a;".repeat(40)).fault(), PAD);
        checks.due("a full pad that ends too early", withPad("a;".repeat(39) + "a*").fault(), PAD);
        for (int index = 0; index < PAD; index++) {
            checks.due("fault at " + index, withPad(text.substring(0, index) + "!" + text.substring(index + 1)).fault(), index);
            checks.due("end at " + index, withPad(text.substring(0, index)).fault(),
                    index % 2 == 1 ? HeavyGuests.NONE : index);
        }
        checks.due("the first one of two", withPad("a;!b;!").fault(), 2);
    }

    /** fault: "if there is none and the text ends too early (also if it is empty), it is the length of the text". */
    private static void faultOfAnEmptyText() {
        checks.due("a new pad", new HeavyGuests().fault(), 0);
        HeavyGuests x = withPad("abc");
        x.wipe();
        checks.due("a wiped pad", x.fault(), 0);
        Checks.put(x, "abc");
        x.carryOut();
        checks.due("a pad that was carried out", x.fault(), 0);
    }

    /** fault is no change, whether there is one or not. */
    private static void faultChangesNothing() {
        refusals.in("in use", Refusals::inUse, "fault()", HeavyGuests::fault, HeavyGuests.NONE);
        refusals.in("begun", Refusals::begun, "fault()", HeavyGuests::fault, 2);
    }

    /** carryOut: "BAD_TEXT if the pad has a fault (then it stays)": also if it is empty, or the fault is the last character. */
    private static void carryOutAFault() {
        refusals.in("new", HeavyGuests::new, "carryOut()", HeavyGuests::carryOut, HeavyGuests.BAD_TEXT);
        refusals.in("begun", Refusals::begun, "carryOut()", HeavyGuests::carryOut, HeavyGuests.BAD_TEXT);
        String[] texts = {"!", "a!", "a;", "a;b;", ">", "a;>", "a*", "a*1000", "a*00", "a*01", "%", "%2", "abcde", "&&", "a;;b",
            ";a", "a;b;c;%0;&;d!", "A", "a;".repeat(40), "a".repeat(PAD), "a;".repeat(39) + "a!"};
        for (String text : texts) {
            refusals.in(text, () -> inUseWithPad(text), "carryOut()", HeavyGuests::carryOut, HeavyGuests.BAD_TEXT);
            HeavyGuests x = withPad(text);
            x.carryOut();
            checks.due("the pad stays", x.wipe(), text.length());
        }
    }

    /** "as often as told (once, if it is left out)"; "A number is 0 to 999": 0 times is an error of come(). */
    private static void carryOutSoManyTimes() {
        int[] numbers = {1, 2, 9, 10, 11, 90, 99, 100, 101, 109, 110, 190, 909, 990, 998, 999};
        for (int number : numbers) {
            HeavyGuests x = withPad("a*" + number + ";>b*" + number);
            checks.due("carried out", x.carryOut(), 2);
            checks.due(number + " times", x.of(0, 1, 3), number);
            checks.due(number + " times to the other", x.of(1, 2, 3), number);
        }
        HeavyGuests y = withPad("a;>b");
        checks.due("carried out", y.carryOut(), 2);
        checks.due("once", y.of(0, 1, 3), 1);
        checks.due("once to the other", y.of(1, 2, 3), 1);
        HeavyGuests z = withPad("a*7;b;c*7;>d");
        z.carryOut();
        checks.dueRow("once, behind one told otherwise", Checks.tally(z, 0), 1, 7, 3, 7, 2, 1);
        checks.dueRow("to the stream 0 behind the other, and back", Checks.tally(z, 1), 4, 1);
        checks.due("0 times", withPad("a*0").carryOut(), 0);
    }

    /** "comes to the stream 0, with \">\" ahead of it to the stream 1", "\"%\": age() of the stream 0 or 1; \"&\": join()". */
    private static void carryOutEachKind() {
        HeavyGuests x = new HeavyGuests();
        checks.due("come to both", Checks.carryOut(x, "a*9;>b*7"), 2);
        checks.due("%0", Checks.carryOut(x, "%0"), 1);
        checks.due("the stream 0 aged", x.stream(0, 0), 4);
        checks.due("the stream 1 did not", x.stream(1, 0), 7);
        checks.due("%1", Checks.carryOut(x, "%1"), 1);
        checks.due("the stream 0 did not", x.stream(0, 0), 4);
        checks.due("the stream 1 aged", x.stream(1, 0), 3);
        checks.due("&", Checks.carryOut(x, "&"), 1);
        checks.due("joined", x.stream(0, 0), 7);
        checks.due("begins anew", x.stream(1, 0), 0);
        checks.due("each behind another", Checks.carryOut(x, ">a*4;%1;&;%0;>c;b"), 6);
        checks.dueRow("stream 0", Checks.row(x, 0), 1, 3, 0, 3, 2, 2, 0, 2);
        checks.dueRow("stream 1", Checks.row(x, 1), 3, 1, 0, 1);
    }

    /** "A guest has a name: 1 to 4 letters": its code, for the least and the greatest of each length. */
    private static void carryOutNames() {
        String[] names = {"a", "z", "aa", "az", "za", "zz", "aaa", "zzz", "aaaa", "aaaz", "zaaa", "zzzz"};
        int[] codes = {1, 26, 28, 53, 703, 728, 757, 19682, 20440, 20465, 512515, 531440};
        for (int i = 0; i < names.length; i++) {
            HeavyGuests x = withPad(names[i] + ";>" + names[i] + "*2");
            checks.due("carried out", x.carryOut(), 2);
            checks.due("the code of " + names[i], x.seat(0, 0, 0), codes[i]);
            checks.due("the code of " + names[i], x.seat(1, 0, 0), codes[i]);
        }
    }

    /** carryOut: "up to the first one that returns an error, and empties the pad"; "(.. also if none is carried out)". */
    private static void carryOutUpToTheFirstError() {
        for (int at = 0; at < 5; at++) {
            HeavyGuests x = new HeavyGuests();
            StringBuilder text = new StringBuilder();
            for (int order = 0; order < 5; order++) {
                text.append(order == 0 ? "" : ";").append((char) ('a' + order)).append(order == at ? "*0" : "*5");
            }
            checks.due("carried out of " + text, Checks.carryOut(x, text.toString()), at);
            checks.due("came", x.stream(0, 2), at);
            checks.due("the total", x.stream(0, 0), 5 * at);
            checks.due("an empty pad", x.count(1), 0);
            checks.due("is a change", x.count(2), 1);
            checks.due("undo", x.undo(), 0);
            checks.due("the total before", x.stream(0, 0), 0);
        }
    }

    /** An order "that returns an error": TOO_MANY of come(), as "A call that returns an error changes nothing". */
    private static void carryOutTheSixtyFirst() {
        for (int stream = 0; stream < 2; stream++) {
            HeavyGuests x = new HeavyGuests();
            for (int i = 0; i < 59; i++) {
                x.come(stream, Checks.codeNumber(i), 1);
            }
            String to = stream == 0 ? "" : ">";
            checks.due("the 60th and the 61st", Checks.carryOut(x, to + "zzzz;" + to + "zzzy;" + to + "a"), 1);
            checks.due("60 unlike ones", x.stream(stream, 2), 60);
            checks.due("the total", x.stream(stream, 0), 60);
            checks.due("the first again", Checks.carryOut(x, to + "a;" + to + "zzzz"), 2);
            checks.due("the total", x.stream(stream, 0), 62);
        }
    }

    /** An order "that returns an error": "if the total would be above 99999". */
    private static void carryOutAboveTheGreatestTotal() {
        HeavyGuests x = new HeavyGuests();
        for (int i = 0; i < 100; i++) {
            x.come(0, 1, 999);
        }
        checks.due("100000 is too many", Checks.carryOut(x, "a*98;a*2;a"), 1);
        checks.due("the total", x.stream(0, 0), 99998);
        checks.due("99999 is not", Checks.carryOut(x, "a;>a;b"), 2);
        checks.due("the total", x.stream(0, 0), 99999);
        checks.due("none is left", Checks.carryOut(x, "a"), 0);
        checks.due("once it is halved", Checks.carryOut(x, "%0;a"), 2);
        checks.due("the total", x.stream(0, 0), 50000);
    }

    /** An order "that returns an error": TOO_MANY of join(). */
    private static void carryOutAJoinOfTooMany() {
        HeavyGuests x = new HeavyGuests();
        for (int i = 0; i < 60; i++) {
            x.come(0, Checks.codeNumber(i), 1);
        }
        checks.due("61 unlike ones", Checks.carryOut(x, ">zzzz*3;&;a"), 1);
        checks.due("those of the stream 1 stay", x.stream(1, 0), 3);
        checks.due("those of the stream 0 stay", x.stream(0, 0), 60);
        checks.due("60 unlike ones", Checks.carryOut(x, "%1;%1;>a;&;b"), 5);
        checks.due("joined", x.stream(0, 0), 62);
        HeavyGuests y = new HeavyGuests();
        for (int i = 0; i < 100; i++) {
            y.come(0, 1, 999);
        }
        checks.due("100000 together", Checks.carryOut(y, ">a*100;&;a"), 1);
        checks.due("99999 together", Checks.carryOut(y, "%1;>a*49;&;a"), 3);
        checks.due("the total", y.stream(0, 0), 99999);
    }

    /** carryOut: "Returns how many orders were carried out": one to as many as a full pad holds. */
    private static void carryOutTheMostOrders() {
        for (int orders = 1; orders <= 40; orders++) {
            HeavyGuests x = withPad("a;".repeat(orders - 1) + (orders == 40 ? "aa" : "b"));
            checks.due(orders + " orders", x.carryOut(), orders);
            checks.due("the total", x.stream(0, 0), orders);
            checks.due("of the last order", x.of(0, orders == 40 ? 28 : 2, 3), 1);
            checks.due("one change", x.count(2), 1);
        }
    }

    /** carryOut: "This is a change (one, with all of them ..)"; "An order of a text records nothing by itself". */
    private static void carryOutIsOneChange() {
        for (int before = 0; before <= 7; before++) {
            HeavyGuests x = new HeavyGuests();
            for (int i = 0; i < before; i++) {
                x.come(0, 1, 1);
            }
            checks.due("carried out", Checks.carryOut(x, "a;b*2;>c;%1;&;%0;d*0;e"), 6);
            checks.due("one more, up to 6", x.count(2), Math.min(before + 1, 6));
            checks.due("undo", x.undo(), Math.min(before, 5));
            checks.due("all of them are undone", x.stream(0, 0), before);
            checks.due("none came", x.of(0, 2, 3), 0);
        }
    }
}
