/** Promises 16 to 19: put, wipe, fault, carryOut. */
public final class TextsTest {
    private static final Checks checks = new Checks();

    public static void main(String[] args) {
        put();
        putRefused();
        putTooMany();
        wipe();
        faultless();
        faults();
        carryOut();
        carryOutUpToAnError();
        carryOutIsOneChange();
        carryOutRefused();
        checks.finish();
    }

    private static void put() {
        HeavyGuests x = new HeavyGuests();
        checks.due("one", x.put('a'), 1);
        checks.due("eight", x.put(Checks.packed("bcdefghi")), 9);
        checks.due("! and ~", x.put(Checks.packed("!~")), 11);
        checks.due("pad", x.count(1), 11);
        checks.due("no change", x.count(2), 0);
        // The last character is in the lowest 8 bits: "ab*2" and not its reverse.
        HeavyGuests y = new HeavyGuests();
        y.put(Checks.packed("ab"));
        y.put(Checks.packed("*2"));
        y.carryOut();
        checks.dueRow("in their order", Checks.row(y, 0), Checks.code("ab"), 2, 0, 2);
    }

    private static void putRefused() {
        HeavyGuests x = new HeavyGuests();
        x.put('a');
        long[] wrong = {0, -1, 32, 127, 128, 255, 31, 1, 0x6100, 0x610061, 0x6100_0000_0000_0000L, 0x0100_0000_0000_0061L,
            0x61_61_61_61_61_61_61_20L, 0x20_61_61_61_61_61_61_61L, 0x7f_61_61_61_61_61_61_61L,
            0xe1_61_61_61_61_61_61_61L, 0x61_00_61_61_61_61_61_61L, 0x8000_0000_0000_0061L, Long.MIN_VALUE, Long.MAX_VALUE};
        for (long characters : wrong) {
            checks.due("put " + Long.toHexString(characters), x.put(characters), HeavyGuests.BAD_VALUE);
        }
        checks.due("nothing changes", x.count(1), 1);
        checks.due("put 33", x.put(33), 2);
        checks.due("put 126", x.put(126), 3);
    }

    private static void putTooMany() {
        HeavyGuests x = new HeavyGuests();
        for (int i = 0; i < 9; i++) {
            x.put(Checks.packed("aaa;aaa;"));
        }
        checks.due("75", x.put(Checks.packed("aaa")), 75);
        checks.due("81", x.put(Checks.packed("bbbbbb")), HeavyGuests.TOO_MANY);
        checks.due("a wrong character comes ahead", x.put(Checks.packed("bbbbbb") << 8), HeavyGuests.BAD_VALUE);
        checks.due("none of them is put", x.count(1), 75);
        checks.due("80", x.put(Checks.packed(";aaa;")), 80);
        checks.due("81", x.put('a'), HeavyGuests.TOO_MANY);
        checks.due("the full pad ends too early", x.fault(), 80);
        checks.due("wipe", x.wipe(), 80);
        checks.due("put", x.put('a'), 1);
        HeavyGuests y = new HeavyGuests();
        Checks.put(y, "a*999;".repeat(13) + ">a");
        checks.due("a full pad", y.count(1), 80);
        checks.due("a full pad has no fault", y.fault(), HeavyGuests.NONE);
        checks.due("a full pad is carried out", y.carryOut(), 14);
        checks.due("a full pad is carried out", y.stream(0, 0), 13 * 999);
    }

    private static void wipe() {
        HeavyGuests x = new HeavyGuests();
        checks.due("wipe of nothing", x.wipe(), 0);
        Checks.put(x, "abc;de");
        checks.due("wipe", x.wipe(), 6);
        checks.due("wipe again", x.wipe(), 0);
        checks.due("pad", x.count(1), 0);
        checks.due("no change", x.count(2), 0);
        checks.due("fault", x.fault(), 0);
    }

    private static void faultless() {
        String[] texts = {"a", "abcd", "zzzz*999", "a*0", "a*1", "a*10", "a*999", ">a", ">abcd*5", "%0", "%1", "&", "&;&;%0;%1",
            "a;b;c", ">a*3;b*10;&;%1;c"};
        for (String text : texts) {
            HeavyGuests x = new HeavyGuests();
            Checks.put(x, text);
            checks.due("fault of " + text, x.fault(), HeavyGuests.NONE);
            checks.due("the pad stays", x.count(1), text.length());
            checks.due("no change", x.count(2), 0);
        }
    }

    private static void faults() {
        // Where "|" stands is the fault; at the end the text ends too early.
        String[] texts = {"|", "a;|", ">|", "%|", "a*|", "ab*|", "a;>|", "&;|", "%0;|",
            "|A", "|1", "|;", "|*", "|{", "|`", "|@", "|0", "|!", "|~", ">|>a", ">|%0", ">|&", ">|;", ">|1", ">|*3",
            "abcd|e", ">abcd|e", "a|A", "a|1", "a|>", "a|&", "a|%", "a|{", "a|`", "abcd|5",
            "a*|a", "a*|;", "a*|*", "a*|-1", "a*|/", "a*|:", "a*0|0", "a*0|1", "a*0|9",
            "a*999|9", "a*100|0", "a*12|a", "a*12|*", "a*1|/", "a*1|:", "a*0|a", "a*5|>",
            "%|2", "%|a", "%|;", "%|/", "%|9", "%0|0", "%1|a", "%0|*2", "%0|&", "&|&", "&|a", "&|*2", "&|0",
            "a;|;b", "a;|*", "a*3;b*4;%|7;c", "abc;de*12;|;"};
        for (String text : texts) {
            HeavyGuests x = new HeavyGuests();
            Checks.put(x, text.replace("|", ""));
            checks.due("fault of " + text, x.fault(), text.indexOf('|'));
        }
    }

    private static void carryOut() {
        HeavyGuests x = new HeavyGuests();
        Checks.put(x, "a*5;abcd;>a*12;>b;a;%1;b*8");
        checks.due("carried out", x.carryOut(), 7);
        checks.dueRow("stream 0", Checks.row(x, 0), 1, 6, 0, 6, Checks.code("abcd"), 1, 0, 1, 2, 8, 0, 8);
        checks.dueRow("stream 1", Checks.row(x, 1), 1, 6, 0, 6);
        checks.due("the pad is empty", x.count(1), 0);
        checks.due("join", Checks.carryOut(x, "&;%0"), 2);
        checks.dueRow("joined and aged", Checks.row(x, 0), 1, 6, 0, 6, 2, 4, 0, 4);
        checks.due("total", x.stream(0, 0), 10);
        checks.due("all digits", Checks.carryOut(x, ">c*987;>c*654;>c*321;>c*100"), 4);
        checks.due("all digits", x.of(1, 3, 3), 987 + 654 + 321 + 100);
    }

    private static void carryOutUpToAnError() {
        HeavyGuests x = new HeavyGuests();
        checks.due("none comes 0 times", Checks.carryOut(x, "a;b*0;c"), 1);
        checks.due("those behind do not come", x.stream(0, 2), 1);
        checks.due("the pad is empty", x.count(1), 0);
        checks.due("the first is an error", Checks.carryOut(x, "a*0"), 0);
        checks.due("is a change all the same", x.count(2), 2);
        checks.due("the pad is empty", x.count(1), 0);
        checks.due("undo", x.undo(), 1);
        checks.due("undo", x.undo(), 0);
        checks.due("undone", x.stream(0, 0), 0);
        for (int i = 0; i < 60; i++) {
            x.come(0, Checks.codeNumber(i), 1);
        }
        checks.due("the 61st", Checks.carryOut(x, "a;zzzz;b"), 1);
        checks.due("the 61st to the other, then too many together", Checks.carryOut(x, ">zzzz;&;a"), 1);
        checks.due("total", x.stream(0, 0), 61);
        HeavyGuests y = new HeavyGuests();
        for (int i = 0; i < 100; i++) {
            y.come(0, 1, 999);
        }
        checks.due("too great a total", Checks.carryOut(y, "a*99;a;%0"), 1);
        checks.due("total", y.stream(0, 0), 99999);
    }

    private static void carryOutIsOneChange() {
        HeavyGuests x = new HeavyGuests();
        Checks.carryOut(x, "a;b;%1;&;c*9;d;e;f");
        checks.due("one change", x.count(2), 1);
        checks.due("undo", x.undo(), 0);
        checks.dueRow("all is undone", Checks.numbers(x, 0), 0, 0, 0, 0, 0, 0, 0);
        checks.due("the pad does not come back", x.count(1), 0);
    }

    private static void carryOutRefused() {
        HeavyGuests x = new HeavyGuests();
        checks.due("an empty text", x.carryOut(), HeavyGuests.BAD_TEXT);
        Checks.put(x, "a;b;");
        checks.due("a text that ends too early", x.carryOut(), HeavyGuests.BAD_TEXT);
        checks.due("the pad stays", x.count(1), 4);
        checks.due("none is carried out", x.stream(0, 0), 0);
        checks.due("no change", x.count(2), 0);
        Checks.put(x, "c");
        checks.due("mended", x.carryOut(), 3);
        Checks.put(x, "a;B");
        checks.due("a fault", x.carryOut(), HeavyGuests.BAD_TEXT);
        checks.due("the pad stays", x.count(1), 3);
    }
}
