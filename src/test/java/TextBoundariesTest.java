/** The boundaries that the document names for texts, and the promises 8 to 11: a part of its own for each sentence. */
final class TextBoundariesTest {
    private static final Class<IllegalArgumentException> WRONG = IllegalArgumentException.class;
    private static final Class<IllegalStateException> NOT_NOW = IllegalStateException.class;
    private static final int NONE = -1;
    /** A text of 60 signs: 20 people and four couples. */
    private static final String OF_SIXTY = "0;0;0;0;0;0;1;1;1;1;1;1;2;2;2;2;2;2;3;3;+0&1;+0&2;+1&2;+9&10";

    private static final Due DUE = new Due();

    private TextBoundariesTest() {
    }

    public static void main(String[] args) {
        DUE.part(TextBoundariesTest::codes);
        DUE.part(TextBoundariesTest::sixtySigns);
        DUE.part(TextBoundariesTest::clearBuffer);
        DUE.part(TextBoundariesTest::emptyText);
        DUE.part(TextBoundariesTest::oneOrMore);
        DUE.part(TextBoundariesTest::digitOfRow);
        DUE.part(TextBoundariesTest::numbersOfPeople);
        DUE.part(TextBoundariesTest::leadingZeros);
        DUE.part(TextBoundariesTest::signBetweenNumbers);
        DUE.part(TextBoundariesTest::digitOfCouple);
        DUE.part(TextBoundariesTest::otherSigns);
        DUE.part(TextBoundariesTest::firstOfSeveral);
        DUE.part(TextBoundariesTest::ofAnyLength);
        DUE.part(TextBoundariesTest::runOfNoChronicle);
        DUE.part(TextBoundariesTest::runOfOneAndOfMany);
        DUE.part(TextBoundariesTest::runUpToARefusedPerson);
        DUE.part(TextBoundariesTest::runUpToARefusedCouple);
        DUE.part(TextBoundariesTest::runUpToARefusedChild);
        DUE.part(TextBoundariesTest::runUpToAnException);
        DUE.part(TextBoundariesTest::runAsOneCall);
        DUE.part(TextBoundariesTest::runLeavesThePeople);
        DUE.end();
    }

    private static void error(String text, int want) {
        ChronicleRows x = Made.withText(text);
        DUE.same("firstError of " + text, x.firstError(), want);
        DUE.same("firstError of " + text + " again", x.firstError(), want);
        DUE.same("the buffer stays", x.clearBuffer(), text.length());
    }

    /** A chronicle begins with it. */
    private static void begins(String text) {
        error(text, text.length());
    }

    private static void wrongAtEnd(String text) {
        error(text, text.length() - 1);
    }

    /** For each sign that may be appended: whether a chronicle begins with the text and it. */
    private static void goesOnWith(String text, String signs) {
        for (char sign = 33; sign <= 126; sign++) {
            error(text + sign, signs.indexOf(sign) >= 0 ? text.length() + 1 : text.length());
        }
    }

    private static void whole(String text, boolean due) {
        ChronicleRows x = Made.withText(text);
        if (due) {
            DUE.same("run of " + text + " throws nothing", x.run() >= 0, true);
            DUE.same("run of " + text + " is saved", x.count(8), 1);
        } else {
            DUE.thrown("run of " + text, WRONG, x::run);
            DUE.same("run of " + text + " saves nothing", x.count(8), 0);
            DUE.same("run of " + text + " leaves the buffer", x.clearBuffer(), text.length());
        }
    }

    private static void codes() {
        DUE.sentence("code: the character code, 33 to 126");
        ChronicleRows x = new ChronicleRows();
        DUE.same("append(33)", x.append(33), 1);
        DUE.same("append(34)", x.append(34), 2);
        DUE.same("append(125)", x.append(125), 3);
        DUE.same("append(126)", x.append(126), 4);
        for (int code : new int[] {32, 31, 10, 0, -1, -33, 127, 128, 159, 256, 256 + '0', 65536 + '0', Integer.MIN_VALUE,
            Integer.MAX_VALUE}) {
            DUE.thrown("append(" + code + ")", WRONG, () -> x.append(code));
        }
        DUE.same("the length", x.clearBuffer(), 4);
        for (int code = 33; code <= 126; code++) {
            DUE.same("append(" + code + ")", x.append(code), 1);
            x.clearBuffer();
        }
    }

    private static void sixtySigns() {
        DUE.sentence("The buffer has at most 60 characters");
        ChronicleRows x = new ChronicleRows();
        for (int length = 1; length <= 60; length++) {
            DUE.same("append", x.append('~'), length);
        }
        DUE.thrown("append, the 61st", NOT_NOW, () -> x.append('~'));
        DUE.thrown("append, the 61st again", NOT_NOW, () -> x.append(33));
        DUE.thrown("append, the 61st, a wrong code", WRONG, () -> x.append(32));
        DUE.thrown("append, the 61st, a wrong code", WRONG, () -> x.append(127));
        DUE.same("clearBuffer", x.clearBuffer(), 60);
        DUE.same("append behind clearBuffer", x.append('~'), 1);
        ChronicleRows y = Made.withText(OF_SIXTY);
        DUE.thrown("append behind a text of 60", NOT_NOW, () -> y.append(';'));
        DUE.same("firstError of 60", y.firstError(), 60);
        DUE.same("run of 60", y.run(), 24);
        DUE.same("append behind run", y.append('~'), 1);
    }

    private static void clearBuffer() {
        DUE.sentence("clearBuffer: Returns the length that it had");
        ChronicleRows x = new ChronicleRows();
        DUE.same("of a new object", x.clearBuffer(), 0);
        x.append('x');
        DUE.same("of one sign", x.clearBuffer(), 1);
        DUE.same("twice", x.clearBuffer(), 0);
        Made.type(x, "x".repeat(59));
        DUE.same("of 59 signs", x.clearBuffer(), 59);
        Made.type(x, "x".repeat(60));
        DUE.same("of 60 signs", x.clearBuffer(), 60);
        Made.type(x, "0");
        DUE.same("the signs of before are gone", x.firstError(), 1);
        DUE.same("the signs of before are gone", x.run(), 1);
    }

    private static void emptyText() {
        DUE.sentence("the length of the buffer if there is none");
        begins("");
        ChronicleRows x = Made.withText("x");
        x.clearBuffer();
        DUE.same("firstError behind clearBuffer", x.firstError(), 0);
        begins("0");
        begins("0;1");
        begins(OF_SIXTY);
    }

    private static void oneOrMore() {
        DUE.sentence("A chronicle as a text is one or more of these with \";\" between them");
        whole("", false);
        whole("0", true);
        whole("0;0", true);
        whole("+0&1", true);
        whole("^0;+0&19;3", true);
        whole("0;", false);
        whole(";0", false);
        whole("0;;0", false);
        whole("00", false);
        whole("0+0&1", false);
        whole("+0&1;", false);
        whole("^0;", false);
        goesOnWith("", "0123+^");
        goesOnWith("0", ";");
        goesOnWith("3", ";");
        goesOnWith("0;", "0123+^");
        goesOnWith("^0", ";");
        goesOnWith("^9;", "0123+^");
        goesOnWith("+0&0", ";");
        goesOnWith("+0&1;", "0123+^");
    }

    private static void digitOfRow() {
        DUE.sentence("the digit of a row, 0 to 3");
        for (int row = 0; row <= 3; row++) {
            begins("" + row);
            whole("" + row, true);
            ChronicleRows x = Made.withText("3;" + row);
            x.run();
            DUE.same("the row", x.personOf(1, 0), row);
            DUE.same("at its end", x.personOf(1, 1), row == 3 ? 1 : 0);
            DUE.same("without parents", x.personOf(1, 2), NONE);
        }
        for (String text : new String[] {"4", "5", "9", "/", ":", "0;4", "0;/"}) {
            wrongAtEnd(text);
            whole(text, false);
        }
        wrongAtEnd("01");
        wrongAtEnd("10");
    }

    private static void numbersOfPeople() {
        DUE.sentence("two numbers of people, 0 to 19");
        for (int number = 0; number <= 19; number++) {
            begins("+" + number);
            begins("+" + number + "&" + number);
            whole("+" + number + "&0", true);
            whole("+0&" + number, true);
            whole("+" + number, false);
            whole("+" + number + "&", false);
        }
        for (int number = 20; number <= 99; number++) {
            wrongAtEnd("+" + number);
            wrongAtEnd("+0&" + number);
            wrongAtEnd("+19&" + number);
        }
        for (int number = 100; number <= 199; number++) {
            wrongAtEnd("+" + number);
            wrongAtEnd("+1&" + number);
        }
        goesOnWith("+", "0123456789");
        goesOnWith("+1", "0123456789&");
        goesOnWith("+2", "&");
        goesOnWith("+9", "&");
        goesOnWith("+10", "&");
        goesOnWith("+19", "&");
        goesOnWith("+2&", "0123456789");
        goesOnWith("+2&1", "0123456789;");
        goesOnWith("+2&2", ";");
        goesOnWith("+2&19", ";");
        ChronicleRows x = Made.withText(OF_SIXTY.substring(0, 39) + ";+15&12;+9&10;+8&7");
        DUE.same("run", x.run(), 23);
        DUE.same("15 as the greater one", x.coupleOf(0, 1), 15);
        DUE.same("12 as the lesser one", x.coupleOf(0, 0), 12);
        DUE.same("9 as the lesser one", x.coupleOf(1, 0), 9);
        DUE.same("10 as the greater one", x.coupleOf(1, 1), 10);
        x.undo();
        Made.type(x, "0;0;0;0;0;0;3;3;3;3;3;3;2;2;2;2;2;1;1;1;+19&18;+17&19");
        DUE.same("run", x.run(), 22);
        DUE.same("19 in a couple", x.personOf(19, 3), 2);
        DUE.same("17 in a couple", x.personOf(17, 3), 1);
    }

    private static void leadingZeros() {
        DUE.sentence("numbers of people, without leading zeros");
        for (int digit = 0; digit <= 9; digit++) {
            wrongAtEnd("+0" + digit);
            wrongAtEnd("+0&0" + digit);
            wrongAtEnd("+19&0" + digit);
            whole("+0" + digit + "&1", false);
            whole("+1&0" + digit, false);
        }
        goesOnWith("+0", "&");
        goesOnWith("+1&0", ";");
        begins("+0&0");
        begins("+10&10");
    }

    private static void signBetweenNumbers() {
        DUE.sentence("two numbers with \"&\" between them");
        wrongAtEnd("+&");
        wrongAtEnd("+0;");
        wrongAtEnd("+0+");
        wrongAtEnd("+0&&");
        wrongAtEnd("+0&;");
        wrongAtEnd("+0&0&");
        wrongAtEnd("+1&1&");
        wrongAtEnd("&");
        wrongAtEnd("0&");
        wrongAtEnd("^0&");
        whole("+0", false);
        whole("+10", false);
        whole("+0&", false);
        whole("+0&1&2", false);
    }

    private static void digitOfCouple() {
        DUE.sentence("\"^\" and the digit of a couple, 0 to 9");
        for (int couple = 0; couple <= 9; couple++) {
            begins("^" + couple);
            whole("^" + couple, true);
            wrongAtEnd("^1" + couple);
            wrongAtEnd("^0" + couple);
        }
        goesOnWith("^", "0123456789");
        whole("^", false);
        whole("^10", false);
        // Ten couples, and a child of the last one of these.
        ChronicleRows x = new ChronicleRows();
        Made.type(x, "2;2;0;0;0;0;0;0;1;1;1;1;1;1;+2&3;+3&4;+4&5");
        x.run();
        Made.type(x, "+5&6;+6&7;+8&9;+9&10;+10&11;+11&12;+0&1;^9;^0");
        DUE.same("run", x.run(), 8);
        DUE.same("the couple of a child", x.personOf(14, 2), 9);
        DUE.same("the row of a child", x.personOf(14, 0), 3);
        DUE.same("the place of a child", x.personOf(14, 1), 0);
        Made.type(x, "3;^9");
        DUE.same("run again", x.run(), 2);
        DUE.same("the place of a child, at the end", x.personOf(16, 1), 2);
        DUE.same("the child behind six people is refused", x.count(7), 1);
    }

    private static void otherSigns() {
        DUE.sentence("a character is a syntax error if no chronicle begins with the characters before it and it");
        for (String text : new String[] {"0", "+", "+1", "+1&", "+1&1", "^", "^1", "0;"}) {
            for (String sign : new String[] {"!", "~", "x", "A", ",", "-", ".", "*", "%", "'", "(", "]", "_", ":", "/", "<"}) {
                wrongAtEnd(text + sign);
            }
        }
    }

    private static void firstOfSeveral() {
        DUE.sentence("Returns the index of the first character that is a syntax error");
        error("x", 0);
        error("xx", 0);
        error("0x;0", 1);
        error("0;x;x", 2);
        error("4;4", 0);
        error("+20&20", 2);
        error("0;+1&100;4", 7);
        error("0;".repeat(29) + "0x", 59);
        error("0;".repeat(29) + "x0", 58);
        error("x" + "0".repeat(59), 0);
    }

    private static void ofAnyLength() {
        DUE.sentence("no chronicle as a text, of any length, begins with it");
        String of54 = "0;".repeat(27);
        begins(of54 + "0;0;0;");
        begins(of54 + "0;0;^0");
        begins("^0;" + of54 + "0;^");
        begins(of54 + "+10&19");
        begins(of54 + "0;+10&");
        begins(of54 + "0;0;+1");
        begins("^0;" + of54 + "0;+");
        DUE.same("60 signs", Made.withText(of54 + "0;0;0;").clearBuffer(), 60);
        whole(of54 + "0;0;0;", false);
        whole(of54 + "0;+10&", false);
        whole("^0;" + of54 + "0;+", false);
        whole(of54 + "+10&19", true);
    }

    private static void runOfNoChronicle() {
        DUE.sentence("run throws IllegalArgumentException if the buffer does not tell a chronicle as a text");
        for (String text : new String[] {"", "x", "0;", "+", "+1", "+1&", "^", "4", "0x", "0;0;4", "+0&20", "0;+0&1;", "^10"}) {
            ChronicleRows x = Made.withPeople(0, 0);
            Made.type(x, text);
            DUE.thrown("run of " + text, WRONG, x::run);
            DUE.same("nothing is done", x.count(0), 2);
            DUE.same("nothing is counted", x.count(7), 0);
            DUE.same("nothing is saved", x.count(8), 2);
            DUE.same("the buffer stays", x.clearBuffer(), text.length());
        }
    }

    private static void runOfOneAndOfMany() {
        DUE.sentence("run: Returns how many are done");
        ChronicleRows x = Made.withText("0");
        DUE.same("of one", x.run(), 1);
        Made.type(x, "+0&0");
        DUE.same("of none", x.run(), 0);
        Made.type(x, "^0");
        DUE.same("of none", x.run(), 0);
        x = Made.withText(OF_SIXTY);
        DUE.same("of 24", x.run(), 24);
        DUE.same("people", x.count(0), 20);
        DUE.same("couples", x.count(1), 4);
        DUE.same("the last couple", x.coupleOf(3, 1), 10);
        x = Made.withText("0;".repeat(29) + "0");
        DUE.same("30 items, of which 6 are done", x.run(), 6);
        DUE.same("only one is refused", x.count(7), 1);
    }

    private static void upTo(String what, ChronicleRows x, String text, int done, int refused) {
        int people = x.count(0);
        int refusedBefore = x.count(7);
        int saved = x.count(8);
        Made.type(x, text);
        DUE.same(what + ": run of " + text, x.run(), done);
        DUE.same(what + ": refused", x.count(7) - refusedBefore, refused);
        DUE.same(what + ": the buffer is cleared", x.clearBuffer(), 0);
        DUE.same(what + ": saved states", x.count(8), Math.min(6, saved + 1));
        x.undo();
        DUE.same(what + ": undone as one call", x.count(0), people);
        DUE.same(what + ": undone, refused", x.count(7), refusedBefore);
    }

    private static void runUpToARefusedPerson() {
        DUE.sentence("run: up to the first one that is refused (and counted so): person()");
        upTo("the row is full", Made.withPeople(2, 2, 2, 2, 2, 2), "2;0;0", 0, 1);
        upTo("the row is full", Made.withPeople(2, 2, 2, 2, 2), "2;1;2;0;2", 2, 1);
        upTo("there are 20", Made.full(), "3;3", 0, 1);
        upTo("the row is full, and there are 20", Made.full(), "2;0", 0, 1);
    }

    private static void runUpToARefusedCouple() {
        DUE.sentence("run: up to the first one that is refused (and counted so): marry()");
        ChronicleRows x = Made.withPeople(0, 0, 0, 0, 1, 3, 3);
        upTo("of two rows", x, "+0&1;+0&4;0", 1, 1);
        upTo("of the row 3", x, "+5&6;0", 0, 1);
        upTo("a couple already", x, "+0&1;+1&0;0", 1, 1);
        upTo("a double", x, "+0&1;+2&0;+0&3;0", 2, 1);
        upTo("there are 10", Made.full(), "+12&13;+0&0;3", 0, 1);
    }

    private static void runUpToARefusedChild() {
        DUE.sentence("run: up to the first one that is refused (and counted so): child()");
        ChronicleRows x = Made.withPeople(1, 1, 2, 2, 2, 2);
        upTo("the row is full", x, "+0&1;^0;^0;^0;0", 3, 1);
        ChronicleRows y = Made.full();
        upTo("there are 20", y, "^1;0", 0, 1);
    }

    private static void runUpToAnException() {
        DUE.sentence("run: up to the first one whose method would throw an exception");
        ChronicleRows x = Made.withPeople(0, 0);
        x.marry(0, 1);
        upTo("no such person", x, "1;+0&3;1", 1, 0);
        upTo("no such person", x, "1;+3&0;1", 1, 0);
        upTo("no such people", x, "+19&18;1", 0, 0);
        upTo("both the same", x, "0;+2&2;1", 1, 0);
        upTo("both the same, and no such person", x, "+5&5;1", 0, 0);
        upTo("no such couple", x, "^1;1", 0, 0);
        upTo("no such couple", x, "^0;^9;1", 1, 0);
        upTo("a person who has just come", x, "0;+0&2;^1", 3, 0);
        ChronicleRows all = Made.full();
        upTo("both the same, ahead of 10 couples", all, "+3&3;+3&3", 0, 0);
    }

    private static void runAsOneCall() {
        DUE.sentence("run: Undoable, as one call, also if none is done");
        ChronicleRows x = Made.withPeople(0);
        Made.type(x, "0;0;+0&1;^0;^0;3;+9&0;3");
        DUE.same("run", x.run(), 6);
        DUE.same("saved states", x.count(8), 2);
        Made.type(x, "^9");
        DUE.same("run, none is done", x.run(), 0);
        DUE.same("saved states", x.count(8), 3);
        DUE.same("undo", x.undo(), 2);
        DUE.same("people, behind the undo of nothing", x.count(0), 6);
        DUE.same("undo", x.undo(), 1);
        DUE.same("people", x.count(0), 1);
        DUE.same("couples", x.count(1), 0);
        Made.type(x, "+0&0;");
        DUE.thrown("run", WRONG, x::run);
        DUE.same("an exception saves nothing", x.count(8), 1);
    }

    private static void runLeavesThePeople() {
        DUE.sentence("run: The people that there are stay");
        ChronicleRows x = Made.family();
        Made.type(x, "0;+2&10");
        DUE.same("run", x.run(), 2);
        DUE.same("people", x.count(0), 11);
        DUE.same("the first one", x.at(0, 0), 0);
        DUE.same("the one who came", x.at(0, 3), 10);
        DUE.same("couples", x.count(1), 5);
        DUE.same("the middle", x.coupleOf(4, 3), 5);
    }
}
