import java.util.NoSuchElementException;

/**
 * The boundaries of promises 28 to 31, and of the term Text: for each the last case on this side
 * and the first one beyond it.
 */
public final class EdgeTextTest {
    private static final Check CHECK = new Check("EdgeTextTest");
    private static final Class<IllegalArgumentException> NO_TEXT = IllegalArgumentException.class;
    private static final Class<IllegalStateException> FULL = IllegalStateException.class;
    private static final Class<NoSuchElementException> NONE = NoSuchElementException.class;
    private static final String DIGITS = "0123456789";
    private static final String STARTS = "1234sdw";

    public static void main(String[] args) {
        promise28SixtyCharacters();
        promise28AnyCharacter();
        promise28IsNoChange();
        promise29EmptyInput();
        promise29FullInput();
        promise29OneItemAndTwenty();
        promise29NumbersOfOneToThreeDigits();
        promise29SizeAndDirection();
        promise29OrderOutOfRange();
        promise29OrderAtNow();
        promise29SeventeenthOrder();
        promise29Serve();
        promise29PutOff();
        promise29PutOffHours();
        promise29Pass();
        promise29PassBehindTheLastHour();
        promise29SeesWhatItemsAheadDid();
        promise29FirstAndLastItemRefused();
        promise29NoTextAheadOfRefused();
        promise29EmptyAfterwards();
        promise29IsOneChange();
        promise30NothingKept();
        promise30CharactersThatCannotContinue();
        promise30EndsTooEarly();
        promise30FirstAndLastPosition();
        promise30KeptLast();
        promise31NothingRefused();
        promise31LatestRefusal();
        promise31NumberOfTheItem();
        promise31WhatIsNoRefusal();
        CHECK.end();
    }

    private static Edge text(String setup, String text) {
        return Edge.ofText(CHECK, setup, text);
    }

    /** The text is read, as so many items. */
    private static Edge read(String setup, String text, int items) {
        Edge edge = text(setup, text).answers("read", items);
        Edge behind = edge.after("read");
        behind.answers("number 13", 0);
        return behind;
    }

    // ---- promise 28

    /** "The input holds at most 60 characters." */
    private static void promise28SixtyCharacters() {
        Edge.bare(CHECK, "").answers("feed 119", 1);
        Edge.bare(CHECK, "58*feed 119").answers("feed 119", 59);
        Edge.bare(CHECK, "59*feed 119").answers("feed 119", 60);
        Edge full = Edge.bare(CHECK, "pass 1, 60*feed 119");
        full.fails("feed 119", FULL).fails("feed 0", FULL).fails("feed 65535", FULL);
        full.after("!feed 119, !read").answers("feed 119", 1);
        full.after("!feed 119, !read").answers("faultPosition", 1);
        // A sixtieth character that makes a text, and one more that would spoil it.
        Edge text = Edge.bare(CHECK, "text " + "w0;".repeat(19) + "w00");
        text.answers("number 13", 60).fails("feed 120", FULL).answers("read", 20);
        text.after("!feed 120").answers("read", 20);
    }

    private static void promise28AnyCharacter() {
        int[] characters = {0, 10, 32, 127, 128, 255, 256, 0x661, 0xD800, 0xFFFF};
        for (int character : characters) {
            Edge.bare(CHECK, "feed 119").answers("feed " + character, 2);
            Edge edge = Edge.bare(CHECK, "feed 119, feed " + character);
            edge.answers("number 13", 2).faults(1);
        }
    }

    private static void promise28IsNoChange() {
        Edge.bare(CHECK, "pass 1, feed 119").answers("number 12", 1).answers("undo", 0);
        Edge.bare(CHECK, "pass 1, text w1, undo").answers("number 13", 2).answers("read", 1);
    }

    // ---- promise 29

    private static void promise29EmptyInput() {
        Edge.bare(CHECK, "pass 1").faults(0);
        Edge.bare(CHECK, "text w1, read").answers("number 4", 1).faults(0);
    }

    private static void promise29FullInput() {
        String sixty = "4i030@100-200;4o030@100-200;3o030@100-200;2i030@200-300;w001";
        CHECK.same("characters of it", 60, sixty.length());
        Edge behind = read("", sixty, 5);
        behind.answers("number 0", 4).answers("number 4", 1).answers("orderOf 3 4", 300);
        text("", sixty.substring(0, 59) + "x").faults(59);
        text("", sixty.substring(0, 59) + ";").faults(60);
    }

    private static void promise29OneItemAndTwenty() {
        read("", "w1", 1).answers("number 4", 1);
        read("", "w1;w1", 2).answers("number 4", 2);
        read("", "w1;".repeat(19) + "w1", 20).answers("number 4", 20);
        text("", "w1;".repeat(20)).faults(60);
    }

    /** "number: digit [ digit [ digit ] ]". */
    private static void promise29NumbersOfOneToThreeDigits() {
        read("", "w7", 1).answers("number 4", 7);
        read("", "w07", 1).answers("number 4", 7);
        read("", "w48", 1).answers("number 4", 48);
        read("", "w048", 1).answers("number 4", 48);
        read("", "w000", 1).answers("number 4", 0);
        text("", "w0048").faults(4);
        text("", "w").faults(1);
        text("", "w999").refusesItem(20, 0);
        Edge order = read("", "1o009@003-090", 1);
        order.answers("orderOf 0 2", 9).answers("orderOf 0 3", 3).answers("orderOf 0 4", 90);
        text("", "1o0009@3-90").faults(5);
        text("", "1o9@0003-90").faults(7);
        text("", "1o9@3-0090").faults(9);
        read("order 1 1 5 0 9", "d000+001", 1).answers("orderOf 0 4", 10);
        text("order 1 1 5 0 9", "d0000+1").faults(4);
        text("order 1 1 5 0 9", "d0+0001").faults(6);
    }

    /** A size of 1 to 4, "inward (i) or outward (o)". */
    private static void promise29SizeAndDirection() {
        text("", "0o5@0-9").faults(0);
        text("", "5o5@0-9").faults(0);
        for (int size = 1; size <= 4; size++) {
            read("", size + "i5@0-9", 1).answers("orderOf 0 0", size).answers("orderOf 0 1", 0);
            read("", size + "o5@0-9", 1).answers("orderOf 0 0", size).answers("orderOf 0 1", 1);
        }
        text("", "1I5@0-9").faults(1);
        text("", "11o5@0-9").faults(1);
    }

    private static void promise29OrderOutOfRange() {
        text("", "1o0@0-9").refusesItem(20, 0);
        read("", "1o1@0-9", 1).answers("orderOf 0 2", 1);
        read("", "1o30@0-9", 1).answers("orderOf 0 2", 30);
        text("", "1o31@0-9").refusesItem(20, 0);
        read("", "1o5@9-9", 1).answers("orderOf 0 4", 9);
        text("", "1o5@9-8").refusesItem(20, 0);
        read("", "1o5@900-900", 1).answers("orderOf 0 3", 900);
        text("", "1o5@900-901").refusesItem(20, 0);
        text("", "1o5@901-901").refusesItem(20, 0);
        text("", "1o999@999-999").refusesItem(20, 0);
    }

    private static void promise29OrderAtNow() {
        read("pass 5", "1o5@5-9", 1).answers("orderOf 0 3", 5);
        text("pass 5", "1o5@4-9").refusesItem(20, 0);
        read("", "w5;1o5@5-9", 2).answers("orderOf 0 3", 5);
        text("", "w5;1o5@4-9").refusesItem(20, 1);
    }

    private static void promise29SeventeenthOrder() {
        read("15*order 1 1 5 0 9", "1o5@0-9", 1).answers("number 0", 16);
        text("15*order 1 1 5 0 9", "1o5@0-9;1o5@0-9").refusesItem(20, 1);
        text("16*order 1 1 5 0 9", "1o5@0-9").refusesItem(20, 0);
    }

    private static void promise29Serve() {
        String setup = "addPilot 1, order 1 1 5 2 9, order 2 1 5 2 9";
        read(setup, "s0", 1).answers("orderOf 0 7", 2);
        text(setup, "s1").refusesItem(12, 0);
        text(setup, "s2").refusesItem(20, 0);
        text(setup, "s999").refusesItem(20, 0);
        text(setup, "s0;s0").refusesItem(1, 1);
        text(setup + ", pass 10", "s0").refusesItem(1, 0);
        text("", "s0").refusesItem(20, 0);
        Edge ride = read("addPilot 1, addBoat 1, order 1 0 5 0 9", "s0", 1);
        ride.answers("pilot 0 3", 2).answers("boat 0 1", 1).answers("orderOf 0 7", 2);
        text("addPilot 1, addBoat 1, order 1 0 5 0 1", "s0").refusesItem(12, 0);
    }

    private static void promise29PutOff() {
        String setup = "addPilot 1, order 1 1 5 2 9";
        read(setup, "d0+1;d0+2", 2).answers("orderOf 0 4", 12).answers("orderOf 0 9", 2);
        text(setup, "d0+1;d0+1;d0+1").refusesItem(15, 2);
        text(setup, "s0;d0+1").refusesItem(1, 1);
        text(setup, "d1+1").refusesItem(20, 0);
        text(setup + ", 2*putOff 0 1", "d0+49").refusesItem(20, 0);
        text(setup + ", 2*putOff 0 1", "d0+48").refusesItem(15, 0);
        read("order 1 1 5 2 899", "d0+1;d0+48", 2).answers("orderOf 0 4", 900);
    }

    private static void promise29PutOffHours() {
        String setup = "order 1 1 5 2 9";
        text(setup, "d0+0").refusesItem(20, 0);
        read(setup, "d0+1", 1).answers("orderOf 0 4", 10);
        read(setup, "d0+48", 1).answers("orderOf 0 4", 57);
        text(setup, "d0+49").refusesItem(20, 0);
        text(setup, "d0+999").refusesItem(20, 0);
    }

    private static void promise29Pass() {
        read("pass 5", "w0", 1).answers("number 4", 5);
        read("pass 5", "w48", 1).answers("number 4", 53);
        text("pass 5", "w49").refusesItem(20, 0);
        Edge passed = read("addPilot 1, 2*order 1 1 5 0 2, plan 0 0 0", "w3", 1);
        passed.answers("number 2", 1).answers("number 3", 1).answers("pilot 0 1", 1);
        Edge early = read("addPilot 1, 2*order 1 1 5 0 2, plan 0 0 0", "w2", 1);
        early.answers("number 1", 1).answers("number 0", 1);
    }

    private static void promise29PassBehindTheLastHour() {
        String setup = "19*pass 48, pass 39";
        read(setup, "w48", 1).answers("number 4", 999);
        read(setup, "w47;w1;w0", 3).answers("number 4", 999);
        text(setup, "w48;w1").refusesItem(20, 1);
        text(setup + ", pass 1", "w48").refusesItem(20, 0);
    }

    private static void promise29SeesWhatItemsAheadDid() {
        String setup = "addPilot 1, addBoat 1";
        Edge behind = read(setup, "1o5@0-9;s0;w3;1i5@3-90;s1", 5);
        behind.answers("orderOf 0 5", 2).answers("orderOf 1 7", 11).answers("pilot 0 2", 1);
        text(setup, "1o5@0-9;s0;w3;1i5@3-10;s1").refusesItem(12, 4);
        text(setup, "1o5@0-9;w10;s0").refusesItem(1, 2);
        text(setup, "1o5@0-9;w10;d0+1").refusesItem(1, 2);
        read(setup, "1o5@0-9;w9;d0+1", 3).answers("orderOf 0 4", 10);
    }

    /** "all of them or none", with the number of the item. */
    private static void promise29FirstAndLastItemRefused() {
        String setup = "addPilot 1, order 1 1 5 0 9, pass 1";
        text(setup, "s1;w1").refusesItem(20, 0);
        text(setup, "w1;s1").refusesItem(20, 1);
        text(setup, "w1;".repeat(19) + "s1").refusesItem(20, 19);
        text(setup, "s0;w1;d0+1;" + "w1;".repeat(16) + "w").faults(60);
        text(setup, "s0;w1;d0+1;w1").refusesItem(1, 2);
        text(setup + ", 8*pass 1", "w1;w49").refusesItem(20, 1);
    }

    /** No text goes ahead of a refused item; the refusal that was kept stays. */
    private static void promise29NoTextAheadOfRefused() {
        text("pass 1", "s9;x").faults(3);
        text("pass 1", "w49;").faults(4);
        text("pass 1", "w49;w1234").faults(8);
        text("pass 1", "s9;w49").refusesItem(20, 0);
    }

    /** "The input is empty afterwards, whatever happens." */
    private static void promise29EmptyAfterwards() {
        text("", "w1").after("read").answers("number 13", 0).answers("feed 119", 1);
        text("", "x").after("!read").answers("number 13", 0).answers("feed 119", 1);
        text("", "s9").after("!read").answers("number 13", 0).answers("feed 119", 1);
        text("", "w1").after("read, text w2, read").answers("number 4", 3);
        text("", "w1;x").after("!read, text w2, read").answers("number 4", 2);
        text("", "w1;s9").after("!read, text w2, read").answers("number 4", 2);
    }

    private static void promise29IsOneChange() {
        text("7*pass 1", "w1;w1;w1").after("read").answers("number 12", 8);
        text("7*pass 1", "w1;w1;w1").after("read").answers("undo", 7);
        text("7*pass 1", "w1;w1;w1").after("read, undo").answers("number 4", 7);
        text("8*pass 1", "w1;w1;w1").after("read, 8*undo").answers("number 4", 1);
        text("", "w0").after("read").answers("number 12", 1);
    }

    // ---- promise 30

    private static void promise30NothingKept() {
        Edge empty = Edge.bare(CHECK, "");
        empty.fails("faultPosition", NONE);
        empty.after("text w1, read").fails("faultPosition", NONE);
        empty.after("text s9, !read").fails("faultPosition", NONE);
        empty.after("text w").fails("faultPosition", NONE);
        empty.after("!read").asks("faultPosition", 0);
    }

    /** "the first character that cannot continue such a text": all signs at each place. */
    private static void promise30CharactersThatCannotContinue() {
        String[][] headAndNext = {
            {"", STARTS}, {"1", "io"}, {"2", "io"}, {"3", "io"}, {"4", "io"},
            {"1i", DIGITS}, {"1o", DIGITS}, {"1i5", DIGITS + "@"}, {"1i55", DIGITS + "@"},
            {"1i555", "@"}, {"1o5@", DIGITS}, {"1o5@1", DIGITS + "-"},
            {"1o5@11", DIGITS + "-"}, {"1o5@111", "-"}, {"1o5@1-", DIGITS},
            {"1o5@1-2", DIGITS + ";"}, {"1o5@1-22", DIGITS + ";"}, {"1o5@1-222", ";"},
            {"s", DIGITS}, {"s1", DIGITS + ";"}, {"s11", DIGITS + ";"}, {"s111", ";"},
            {"d", DIGITS}, {"d1", DIGITS + "+"}, {"d11", DIGITS + "+"}, {"d111", "+"},
            {"d1+", DIGITS}, {"d1+2", DIGITS + ";"}, {"d1+22", DIGITS + ";"}, {"d1+222", ";"},
            {"w", DIGITS}, {"w1", DIGITS + ";"}, {"w11", DIGITS + ";"}, {"w111", ";"},
            {"w1;", STARTS}, {"w1;2", "io"}, {"w1;w1;s", DIGITS}};
        for (String[] row : headAndNext) {
            for (char sign = 0; sign < 300; sign++) {
                next(row[0], sign, row[1].indexOf(sign) >= 0);
            }
            next(row[0], (char) 0x661, false);
            next(row[0], (char) 0xFF11, false);
            next(row[0], (char) 0xFFFF, false);
        }
    }

    /** The sign behind a head continues it, so that a second, wrong one is the fault, or not. */
    private static void next(String head, char sign, boolean isNext) {
        PilotRoster x = new PilotRoster();
        for (char fed : (head + sign + "?").toCharArray()) {
            x.feed(fed);
        }
        CHECK.fails("read of " + head + sign, NO_TEXT, () -> x.read());
        CHECK.same("fault of " + head + "(" + (int) sign + ")",
                head.length() + (isNext ? 1 : 0), x.faultPosition());
    }

    /** "or the length of the text if it ends too early". */
    private static void promise30EndsTooEarly() {
        String[] heads = {
            "1", "1i", "1i5", "1i55", "1i555", "1i5@", "1i5@1", "1i5@111", "1i5@1-", "s", "d",
            "d1", "d111", "d1+", "w", "w1;", "w1;2", "w1;2o5@1-2;", "s1;d1+2;d"};
        for (String head : heads) {
            text("pass 1", head).faults(head.length());
        }
        String[] texts = {"1i5@1-2", "2o5@1-222", "s0", "d0+1", "w1", "w1;w1"};
        for (String whole : texts) {
            Edge edge = text("addPilot 1, order 1 1 5 0 9", whole);
            edge.answers("read", whole.indexOf(';') > 0 ? 2 : 1);
            edge.after("read").answers("faultPosition", 3);
        }
    }

    private static void promise30FirstAndLastPosition() {
        text("pass 1", "?").faults(0);
        text("pass 1", "?" + "w1;".repeat(19)).faults(0);
        text("pass 1", "w1;".repeat(19) + "w1?").faults(59);
        text("pass 1", "w1;".repeat(20)).faults(60);
        text("pass 1", "w1;".repeat(19) + "w").faults(58);
    }

    /** "the fault position that was kept last", behind texts, refusals, undo and snapshots. */
    private static void promise30KeptLast() {
        Edge edge = Edge.bare(CHECK, "saveSnapshot, pass 1, text w1;x, !read");
        edge.asks("faultPosition", 3);
        edge.after("text x, !read").answers("faultPosition", 0);
        edge.after("text w1, read").answers("faultPosition", 3);
        edge.after("text s9, !read").answers("faultPosition", 3);
        edge.after("undo").answers("faultPosition", 3);
        edge.after("restoreSnapshot").answers("faultPosition", 3);
        edge.after("!rule 9 9").answers("faultPosition", 3);
    }

    // ---- promise 31

    private static void promise31NothingRefused() {
        Edge empty = Edge.bare(CHECK, "order 1 1 5 0 9");
        empty.fails("refusal 1", NONE).fails("refusal 0", NONE);
        empty.after("serveAll").fails("refusal 1", NONE);
        empty.after("!serve 0").asks("refusal 1", 12).asks("refusal 0", 0);
    }

    private static void promise31LatestRefusal() {
        Edge edge = Edge.bare(CHECK, "saveSnapshot, order 1 1 5 0 9, text w0;s9, !read");
        edge.asks("refusal 1", 20).asks("refusal 0", 1);
        edge.after("!serve 0").answers("refusal 1", 12).answers("refusal 0", 0);
        edge.after("!release 0").answers("refusal 1", 13).answers("refusal 0", 0);
        edge.after("!serve 0, text w0;w0;w49, !read").answers("refusal 1", 20)
                .answers("refusal 0", 2);
    }

    /** "counted from 0, or 0 for another call". */
    private static void promise31NumberOfTheItem() {
        Edge edge = Edge.bare(CHECK, "pass 1, text w49, !read");
        edge.asks("refusal 0", 0);
        edge.after("text w0;w49, !read").answers("refusal 0", 1);
        edge.after("text " + "w0;".repeat(19) + "w49, !read").answers("refusal 0", 19);
        edge.after("text w0;w49, !read, order 1 1 5 1 9, !serve 0").answers("refusal 0", 0);
    }

    /** Other exceptions, undo and snapshots leave the refusal; so do calls that succeed. */
    private static void promise31WhatIsNoRefusal() {
        Edge edge = Edge.bare(CHECK, "saveSnapshot, order 1 1 5 0 9, text w0;s0, !read");
        String[] calls = {
            "undo", "restoreSnapshot", "saveSnapshot", "!rule 9 9", "!serve 9", "!putOff 0 49",
            "!serving 0 0", "serveAll", "pass 48", "!read", "text w1, read", "text x, !read"};
        for (String call : calls) {
            edge.after(call).answers("refusal 1", 12).answers("refusal 0", 1);
        }
    }
}
