/** For each promise of the document what it says, its edges and wrong inputs; worked out by hand. */
final class PromisesTest {
    private static final Class<IndexOutOfBoundsException> NO_SUCH = IndexOutOfBoundsException.class;
    private static final Class<IllegalArgumentException> WRONG = IllegalArgumentException.class;
    private static final Class<IllegalStateException> NOT_NOW = IllegalStateException.class;
    private static final int NONE = ChronicleRows.NONE;
    private static final int FAR = Integer.MAX_VALUE;
    private static final int FAR_BELOW = Integer.MIN_VALUE;

    private static final Due DUE = new Due();

    private PromisesTest() {
    }

    public static void main(String[] args) {
        DUE.part(PromisesTest::newObject);
        DUE.part(PromisesTest::person);
        DUE.part(PromisesTest::marry);
        DUE.part(PromisesTest::child);
        DUE.part(PromisesTest::swap);
        DUE.part(PromisesTest::byParents);
        DUE.part(PromisesTest::untangle);
        DUE.part(PromisesTest::appendAndClearBuffer);
        DUE.part(PromisesTest::firstError);
        DUE.part(PromisesTest::run);
        DUE.part(PromisesTest::keepAndGoBack);
        DUE.part(PromisesTest::undo);
        DUE.part(PromisesTest::undoableCalls);
        DUE.part(PromisesTest::callsThatSaveNothing);
        DUE.part(PromisesTest::personOf);
        DUE.part(PromisesTest::coupleOf);
        DUE.part(PromisesTest::at);
        DUE.part(PromisesTest::crossings);
        DUE.part(PromisesTest::count);
        DUE.part(PromisesTest::leastOfRows);
        DUE.part(PromisesTest::leftOffOrders);
        DUE.part(PromisesTest::bestSwap);
        DUE.part(PromisesTest::nearness);
        DUE.part(PromisesTest::straightShare);
        DUE.part(PromisesTest::digest);
        DUE.end();
    }

    private static void order(String when, ChronicleRows of, int row, int... people) {
        for (int place = 0; place < 6; place++) {
            int want = place < people.length ? people[place] : NONE;
            DUE.same(when + ": at(" + row + ", " + place + ")", of.at(row, place), want);
        }
    }

    private static void newObject() {
        ChronicleRows x = new ChronicleRows();
        DUE.same("NONE", NONE, -1);
        for (int what = 0; what <= 8; what++) {
            DUE.same("new: count(" + what + ")", x.count(what), 0);
        }
        for (int row = 0; row < 4; row++) {
            order("new", x, row);
        }
        DUE.same("new: firstError", x.firstError(), 0);
        DUE.same("new: clearBuffer", x.clearBuffer(), 0);
        DUE.thrown("new: goBack(0)", NOT_NOW, () -> x.goBack(0));
        DUE.thrown("new: goBack(1)", NOT_NOW, () -> x.goBack(1));
        DUE.thrown("new: undo", NOT_NOW, x::undo);
    }

    private static void person() {
        ChronicleRows x = new ChronicleRows();
        DUE.same("person(3)", x.person(3), 0);
        for (int number = 1; number <= 6; number++) {
            DUE.same("person(0)", x.person(0), number);
        }
        DUE.same("person(0), the row is full", x.person(0), NONE);
        DUE.same("person: refused", x.count(7), 1);
        DUE.same("person: people", x.count(0), 7);
        order("person", x, 0, 1, 2, 3, 4, 5, 6);
        order("person", x, 3, 0);
        for (int wrong : new int[] {-1, 4, FAR, FAR_BELOW}) {
            DUE.thrown("person(" + wrong + ")", NO_SUCH, () -> x.person(wrong));
        }
        DUE.same("person: none refused by throwing", x.count(7), 1);
        ChronicleRows all = Made.full();
        DUE.same("20 people", all.count(0), 20);
        DUE.same("person(3), there are 20", all.person(3), NONE);
        DUE.same("person: refused as there are 20", all.count(7), 1);
    }

    private static void marry() {
        ChronicleRows x = Made.withPeople(0, 0, 0, 1, 3, 3, 0, 2, 2);
        DUE.same("marry(1, 0)", x.marry(1, 0), 10);
        DUE.same("marry, a couple already", x.marry(0, 1), 3);
        DUE.same("marry, of two rows", x.marry(0, 3), 2);
        DUE.same("marry, of the row 3", x.marry(4, 5), 2);
        DUE.same("marry, of the row 2", x.marry(7, 8), 11);
        DUE.same("marry a second time", x.marry(0, 2), 12);
        DUE.same("marry, the one is a double", x.marry(0, 6), 4);
        DUE.same("marry, the other one is a double", x.marry(6, 0), 4);
        DUE.same("marry, a couple ahead of a double", x.marry(2, 0), 3);
        DUE.same("marry, two rows ahead of a double", x.marry(3, 0), 2);
        DUE.same("marry: refused", x.count(7), 7);
        DUE.same("marry: couples", x.count(1), 3);
        DUE.thrown("marry(0, 0)", WRONG, () -> x.marry(0, 0));
        for (int wrong : new int[] {-1, 9, FAR, FAR_BELOW}) {
            DUE.thrown("marry(0, " + wrong + ")", NO_SUCH, () -> x.marry(0, wrong));
            DUE.thrown("marry(" + wrong + ", 0)", NO_SUCH, () -> x.marry(wrong, 0));
            DUE.thrown("marry(" + wrong + ", twice)", NO_SUCH, () -> x.marry(wrong, wrong));
        }
        DUE.same("marry: none refused by throwing", x.count(7), 7);
        ChronicleRows all = Made.full();
        DUE.same("10 couples", all.count(1), 10);
        DUE.same("marry, there are 10", all.marry(12, 13), 1);
        DUE.same("marry, 10 ahead of two rows", all.marry(0, 12), 1);
        DUE.same("marry, 10 ahead of a couple", all.marry(0, 1), 1);
        DUE.same("marry, 10 ahead of a double", all.marry(1, 3), 1);
    }

    private static void child() {
        ChronicleRows x = Made.withPeople(2, 2, 0, 0);
        x.marry(0, 1);
        x.marry(2, 3);
        DUE.same("child(0)", x.child(0), 4);
        DUE.same("child(1)", x.child(1), 5);
        order("child", x, 3, 4);
        order("child", x, 1, 5);
        DUE.same("child: the couple of which it is", x.personOf(4, 2), 0);
        for (int number = 6; number <= 10; number++) {
            DUE.same("child(0) again", x.child(0), number);
        }
        DUE.same("child(0), the row is full", x.child(0), NONE);
        DUE.same("child: refused", x.count(7), 1);
        for (int wrong : new int[] {-1, 2, FAR, FAR_BELOW}) {
            DUE.thrown("child(" + wrong + ")", NO_SUCH, () -> x.child(wrong));
        }
        DUE.same("child: none refused by throwing", x.count(7), 1);
        ChronicleRows all = Made.withPeople(2, 2, 0, 0, 0, 0, 0, 0, 1, 1, 1, 1, 1, 1, 3, 3, 3, 3, 3, 2);
        all.marry(0, 1);
        DUE.same("child(0), there are 20", all.child(0), NONE);
        DUE.same("child: refused as there are 20", all.count(7), 1);
    }

    private static void swap() {
        ChronicleRows x = Made.tangled();
        DUE.same("swap(1, 0)", x.swap(1, 0), 99);
        order("swap", x, 1, 5, 4, 6, 7);
        DUE.same("swap: place of 5", x.personOf(5, 1), 0);
        DUE.same("swap: place of 4", x.personOf(4, 1), 1);
        DUE.same("swap(1, 0) back", x.swap(1, 0), 101);
        // The row 0 as 0 2 1 3: middles 2, 4, 1, so from the left 4 2 1 2: 4 crossings.
        DUE.same("swap(0, 1)", x.swap(0, 1), 100);
        DUE.same("swap: the middle of 0 and 1", x.coupleOf(0, 3), 2);
        DUE.same("swap(1, 2), the last two", x.swap(1, 2), 101);
        for (int wrong : new int[] {-1, 3, 4, FAR, FAR_BELOW}) {
            DUE.thrown("swap(1, " + wrong + ")", WRONG, () -> x.swap(1, wrong));
        }
        DUE.thrown("swap(2, 0), an empty row", WRONG, () -> x.swap(2, 0));
        for (int wrong : new int[] {-1, 4, FAR, FAR_BELOW}) {
            DUE.thrown("swap(" + wrong + ", 0)", NO_SUCH, () -> x.swap(wrong, 0));
            DUE.thrown("swap(" + wrong + ", -1)", NO_SUCH, () -> x.swap(wrong, -1));
        }
    }

    private static void byParents() {
        ChronicleRows x = Made.tangled();
        x.person(1);
        DUE.same("byParents(1)", x.byParents(1), 3);
        order("byParents", x, 1, 5, 7, 6, 4, 8);
        DUE.same("byParents: the place of 4", x.personOf(4, 1), 3);
        DUE.same("byParents(1) again", x.byParents(1), 0);
        x.swap(1, 0);
        x.swap(1, 3);
        DUE.same("byParents, of the same middle by the places", x.byParents(1), 2);
        order("byParents", x, 1, 7, 5, 6, 4, 8);
        ChronicleRows y = Made.withPeople(1, 1, 0, 0);
        y.marry(2, 3);
        y.child(0);
        y.swap(1, 0);
        DUE.same("byParents, those without by the places", y.byParents(1), 3);
        order("byParents", y, 1, 4, 1, 0);
        DUE.same("byParents(0), nobody has parents", x.byParents(0), 0);
        DUE.same("byParents(3), an empty row", x.byParents(3), 0);
        for (int wrong : new int[] {-1, 4, FAR, FAR_BELOW}) {
            DUE.thrown("byParents(" + wrong + ")", NO_SUCH, () -> x.byParents(wrong));
        }
    }

    private static void untangle() {
        ChronicleRows x = Made.tangled();
        DUE.same("untangle(1)", x.untangle(1), 0);
        order("untangle", x, 1, 5, 7, 6, 4);
        DUE.same("untangle: the place of 5", x.personOf(5, 1), 0);
        DUE.same("untangle: all crossings", x.count(3), 0);
        x.swap(1, 0);
        DUE.same("untangle(1), the first one by numbers", x.untangle(1), 0);
        order("untangle", x, 1, 5, 7, 6, 4);
        // 8 of 4 and 5, then 9 of 6 and 7: as 5 7 6 4 both have the middle 3, so that these do not cross either.
        ChronicleRows y = Made.tangled();
        y.marry(4, 5);
        y.marry(6, 7);
        y.child(3);
        y.child(4);
        DUE.same("untangle(2)", y.untangle(2), 0);
        DUE.same("untangle(1), lines to it and from it", y.untangle(1), 0);
        order("untangle of both", y, 1, 5, 7, 6, 4);
        ChronicleRows z = Made.withPeople(3, 3, 3);
        z.swap(3, 0);
        z.swap(3, 1);
        DUE.same("untangle(3), without lines", z.untangle(3), 0);
        order("untangle", z, 3, 0, 1, 2);
        DUE.same("untangle(0), an empty row", z.untangle(0), 0);
        // Each child of a lesser middle than the one before: 9 8 6 4 2 1. Only the last of all orders has no crossing.
        ChronicleRows falling = Made.withPeople(0, 0, 0, 0, 0, 0);
        int[][] couples = {{4, 5}, {3, 5}, {2, 4}, {1, 3}, {0, 2}, {0, 1}};
        for (int couple = 0; couple < 6; couple++) {
            falling.marry(couples[couple][0], couples[couple][1]);
            falling.child(couple);
        }
        DUE.same("all crossings of six lines", falling.count(3), 15);
        DUE.same("untangle(1), the last order", falling.untangle(1), 0);
        order("untangle, the last order", falling, 1, 11, 10, 9, 8, 7, 6);
        for (int wrong : new int[] {-1, 4, FAR, FAR_BELOW}) {
            DUE.thrown("untangle(" + wrong + ")", NO_SUCH, () -> x.untangle(wrong));
        }
    }

    private static void appendAndClearBuffer() {
        ChronicleRows x = new ChronicleRows();
        DUE.same("append(33)", x.append(33), 1);
        DUE.same("append(126)", x.append(126), 2);
        for (int wrong : new int[] {32, 127, -1, 0, FAR, FAR_BELOW}) {
            DUE.thrown("append(" + wrong + ")", WRONG, () -> x.append(wrong));
        }
        for (int length = 3; length <= 60; length++) {
            DUE.same("append('0')", x.append('0'), length);
        }
        DUE.thrown("append, the buffer is full", NOT_NOW, () -> x.append('0'));
        DUE.thrown("append, a wrong code ahead of a full buffer", WRONG, () -> x.append(32));
        DUE.same("clearBuffer", x.clearBuffer(), 60);
        DUE.same("clearBuffer again", x.clearBuffer(), 0);
        DUE.same("append after clearBuffer", x.append('0'), 1);
        DUE.same("append: nothing is saved", x.count(8), 0);
    }

    private static void error(String text, int want) {
        ChronicleRows x = new ChronicleRows();
        Made.type(x, text);
        DUE.same("firstError of " + text, x.firstError(), want);
        DUE.same("firstError leaves the buffer", x.clearBuffer(), text.length());
    }

    private static void firstError() {
        for (String good : new String[] {"", "0", "3", "0;", "0;3", "+", "+0", "+1", "+9", "+10", "+19", "+0&", "+1&",
            "+19&", "+0&0", "+0&1", "+0&9", "+0&10", "+19&19", "^", "^0", "^9", "^9;", "+0&1;", "+0&10;+", "0;1;2;3;^5"}) {
            error(good, good.length());
        }
        for (String bad : new String[] {"4", "9", "&", ";", "x", "/", ":", "!", "~", "00", "0+", "0&", "0^", "0;;", "0;4",
            "++", "+&", "+;", "+^", "+00", "+01", "+20", "+29", "+90", "+100", "+190", "+0;", "+1;", "+10;", "+1+", "+0&&",
            "+0&;", "+0&00", "+0&20", "+0&100", "+0&1&", "+0&0&", "+0&+", "^;", "^^", "^+", "^00", "^10", "^9&", "^/", "^:"}) {
            error(bad, bad.length() - 1);
            error(bad + "0;x", bad.length() - 1);
        }
        // Of any length: a text of 60 signs may go on.
        error("0;".repeat(30), 60);
        error("^0" + ";0".repeat(27) + ";+0&", 60);
    }

    private static void runs(ChronicleRows x, String text, int done) {
        Made.type(x, text);
        DUE.same("run of " + text, x.run(), done);
        DUE.same("run of " + text + " clears the buffer", x.clearBuffer(), 0);
    }

    private static void run() {
        ChronicleRows x = new ChronicleRows();
        runs(x, "0;0;1;+1&0;^0;^0;+3&2", 7);
        order("run", x, 0, 0, 1);
        order("run", x, 1, 2, 3, 4);
        DUE.same("run: couples", x.count(1), 2);
        DUE.same("run: saved as one call", x.count(8), 1);
        DUE.same("run: undone as one call", x.undo(), 0);
        DUE.same("run: nobody is left", x.count(0), 0);
        runs(x, "0;0;+0&1;+0&1;0", 3);
        DUE.same("run: refused and counted", x.count(7), 1);
        DUE.same("run: nothing behind the refused one", x.count(0), 2);
        runs(x, "0;+5&5;0", 1);
        runs(x, "+0&0;0", 0);
        runs(x, "+0&3;0", 0);
        runs(x, "+3&0;0", 0);
        runs(x, "^1;0", 0);
        DUE.same("run: exceptions are not counted", x.count(7), 1);
        DUE.same("run: saved also if none is done", x.count(8), 6);
        runs(x, "0;0;0;0;1", 3);
        DUE.same("run: a person is refused", x.count(7), 2);
        runs(x, "^0;^0;^0;^0;^0;^0;^0;0", 6);
        DUE.same("run: a child is refused", x.count(7), 3);
        runs(Made.full(), "+12&13", 0);
        ChronicleRows y = new ChronicleRows();
        runs(y, "1;1;1;1;1;1;2;2;2;2;2;2;3;3;3;3;3;3;0;0;+18&19;+0&19", 21);
        DUE.same("run: numbers of two signs", y.coupleOf(0, 0), 18);
        for (String bad : new String[] {"", "0;", "4", "+", "+0", "+1", "+10", "+0&", "+1&", "^", "+0&1;", "+0&01"}) {
            Made.type(y, bad);
            int saved = y.count(8);
            DUE.thrown("run of " + bad, WRONG, y::run);
            DUE.same("run of " + bad + " saves nothing", y.count(8), saved);
            DUE.same("run of " + bad + " leaves the buffer", y.clearBuffer(), bad.length());
        }
        DUE.same("run: the people of before", y.count(0), 20);
    }

    private static void keepAndGoBack() {
        ChronicleRows x = Made.withPeople(0, 0, 3);
        x.marry(0, 2);
        DUE.same("keep(0)", x.keep(0), 3);
        x.marry(0, 1);
        x.child(0);
        x.swap(0, 0);
        DUE.same("keep(1)", x.keep(1), 4);
        DUE.thrown("keep(2)", WRONG, () -> x.keep(2));
        DUE.thrown("keep(-1)", WRONG, () -> x.keep(-1));
        DUE.thrown("goBack(2)", WRONG, () -> x.goBack(2));
        DUE.thrown("goBack(-1)", WRONG, () -> x.goBack(-1));
        x.marry(0, 2);
        Made.type(x, "0;0");
        DUE.same("goBack(0)", x.goBack(0), 3);
        DUE.same("goBack(0): couples", x.count(1), 0);
        DUE.same("goBack(0): refused", x.count(7), 1);
        order("goBack(0)", x, 0, 0, 1);
        order("goBack(0)", x, 1);
        DUE.same("goBack(0): the buffer stays", x.firstError(), 3);
        DUE.same("goBack(1)", x.goBack(1), 4);
        order("goBack(1)", x, 0, 1, 0);
        x.person(1);
        DUE.same("goBack(1): it stays", x.goBack(1), 4);
        DUE.same("goBack(1): the child's couple", x.personOf(3, 2), 0);
        x.person(2);
        DUE.same("keep(1), in place of the other one", x.keep(1), 5);
        x.undo();
        DUE.same("undo leaves the slots", x.goBack(1), 5);
        DUE.same("goBack(0) once more", x.goBack(0), 3);
        ChronicleRows y = new ChronicleRows();
        y.keep(1);
        DUE.thrown("goBack(0), only the other slot has one", NOT_NOW, () -> y.goBack(0));
        DUE.same("goBack(1), of an empty chronicle", y.goBack(1), 0);
    }

    private static void undo() {
        ChronicleRows x = new ChronicleRows();
        for (int times = 0; times < 9; times++) {
            x.person(times / 6);
        }
        DUE.same("undo: 6 states are saved", x.count(8), 6);
        for (int left = 5; left >= 0; left--) {
            DUE.same("undo", x.undo(), left);
            DUE.same("undo: people", x.count(0), left + 3);
            DUE.same("undo: saved states", x.count(8), left);
        }
        DUE.thrown("undo, none is saved", NOT_NOW, x::undo);
        order("undo, the oldest ones were dropped", x, 0, 0, 1, 2);
        x.marry(0, 1);
        x.swap(0, 0);
        Made.type(x, "^0");
        x.undo();
        order("undo of swap", x, 0, 0, 1, 2);
        DUE.same("undo leaves the buffer", x.firstError(), 2);
        x.undo();
        DUE.same("undo of marry", x.count(1), 0);
        x.marry(0, 1);
        x.marry(0, 1);
        DUE.same("undo: refused", x.count(7), 1);
        DUE.same("undo of what was refused", x.undo(), 1);
        DUE.same("undo: what was refused so far", x.count(7), 0);
    }

    private static void saves(String what, ChronicleRows x, Runnable call, boolean due) {
        for (int left = x.count(8); left > 0; left--) {
            x.undo();
        }
        x.clearBuffer();
        Made.type(x, "^9");
        call.run();
        DUE.same(what + ": saved states", x.count(8), due ? 1 : 0);
    }

    private static void undoableCalls() {
        ChronicleRows x = Made.full();
        x.keep(0);
        saves("person, refused", x, () -> x.person(0), true);
        saves("marry, refused", x, () -> x.marry(0, 1), true);
        saves("child, refused", x, () -> x.child(0), true);
        saves("swap", x, () -> x.swap(0, 0), true);
        saves("byParents, nothing is changed", x, () -> x.byParents(0), true);
        saves("untangle, nothing is changed", x, () -> x.untangle(3), true);
        saves("run, none is done", x, x::run, true);
        saves("goBack", x, () -> x.goBack(0), true);
    }

    private static void callsThatSaveNothing() {
        ChronicleRows x = Made.full();
        x.keep(0);
        saves("keep", x, () -> x.keep(0), false);
        saves("append", x, () -> x.append('0'), false);
        saves("clearBuffer", x, x::clearBuffer, false);
        saves("firstError", x, x::firstError, false);
        saves("least", x, () -> x.least(0, 0), false);
        saves("bestSwap", x, x::bestSwap, false);
        saves("digest", x, x::digest, false);
        saves("person that throws", x, () -> DUE.thrown("person(4)", NO_SUCH, () -> x.person(4)), false);
        saves("marry that throws", x, () -> DUE.thrown("marry(1, 1)", WRONG, () -> x.marry(1, 1)), false);
        saves("child that throws", x, () -> DUE.thrown("child(10)", NO_SUCH, () -> x.child(10)), false);
        saves("swap that throws", x, () -> DUE.thrown("swap(0, 5)", WRONG, () -> x.swap(0, 5)), false);
        saves("byParents that throws", x, () -> DUE.thrown("byParents(4)", NO_SUCH, () -> x.byParents(4)), false);
        saves("untangle that throws", x, () -> DUE.thrown("untangle(4)", NO_SUCH, () -> x.untangle(4)), false);
        saves("goBack that throws", x, () -> DUE.thrown("goBack(1)", NOT_NOW, () -> x.goBack(1)), false);
    }

    private static void numbersOf(String who, ChronicleRows x, int person, int... want) {
        for (int what = 0; what <= 6; what++) {
            DUE.same(who + ": personOf(" + person + ", " + what + ")", x.personOf(person, what), want[what]);
        }
    }

    private static void personOf() {
        ChronicleRows x = Made.family();
        numbersOf("the one who begins", x, 0, 0, 0, NONE, 1, 2, 4, 0);
        numbersOf("a double", x, 1, 0, 1, NONE, 2, 3, 5, 0);
        numbersOf("a child", x, 4, 1, 1, 0, 1, 1, 2, 2);
        numbersOf("one without parents", x, 5, 1, 2, NONE, 1, 1, 2, 0);
        numbersOf("a grandchild", x, 6, 2, 0, 1, 1, 1, 1, 4);
        numbersOf("the last one", x, 8, 3, 0, 3, 0, 0, 0, 6);
        numbersOf("of the second couple", x, 9, 1, 3, 2, 0, 0, 0, 2);
        // Both parents of 6 descend from 0 and 1: these count once, and so does 6.
        ChronicleRows kin = Made.withPeople(0, 0);
        kin.marry(0, 1);
        kin.child(0);
        kin.child(0);
        kin.marry(2, 3);
        kin.child(1);
        numbersOf("a child of kin", kin, 4, 2, 0, 1, 0, 0, 0, 4);
        numbersOf("above kin", kin, 0, 0, 0, NONE, 1, 2, 3, 0);
        for (int wrong : new int[] {-1, 7, FAR, FAR_BELOW}) {
            DUE.thrown("personOf(0, " + wrong + ")", WRONG, () -> x.personOf(0, wrong));
        }
        for (int wrong : new int[] {-1, 10, FAR, FAR_BELOW}) {
            DUE.thrown("personOf(" + wrong + ", 0)", NO_SUCH, () -> x.personOf(wrong, 0));
            DUE.thrown("personOf(" + wrong + ", 7)", NO_SUCH, () -> x.personOf(wrong, 7));
        }
    }

    private static void coupleOf() {
        ChronicleRows x = Made.family();
        x.marry(3, 4);
        x.swap(1, 2);
        int[][] want = {{0, 1, 0, 1, 2, 0}, {4, 5, 1, 4, 1, 0}, {1, 2, 0, 3, 1, 0}, {6, 7, 2, 1, 1, 0}, {3, 4, 1, 1, 0, 2}};
        for (int couple = 0; couple < want.length; couple++) {
            for (int what = 0; what <= 5; what++) {
                DUE.same("coupleOf(" + couple + ", " + what + ")", x.coupleOf(couple, what), want[couple][what]);
            }
        }
        for (int wrong : new int[] {-1, 6, FAR, FAR_BELOW}) {
            DUE.thrown("coupleOf(0, " + wrong + ")", WRONG, () -> x.coupleOf(0, wrong));
        }
        for (int wrong : new int[] {-1, 5, FAR, FAR_BELOW}) {
            DUE.thrown("coupleOf(" + wrong + ", 0)", NO_SUCH, () -> x.coupleOf(wrong, 0));
            DUE.thrown("coupleOf(" + wrong + ", 6)", NO_SUCH, () -> x.coupleOf(wrong, 6));
        }
        // Half kin: 3 of 0 and 1, 4 of 1 and 2, have only 1 in common.
        ChronicleRows half = Made.withPeople(0, 0, 0);
        half.marry(0, 1);
        half.marry(1, 2);
        half.child(0);
        half.child(1);
        half.marry(3, 4);
        DUE.same("coupleOf, half kin", half.coupleOf(2, 5), 1);
    }

    private static void at() {
        ChronicleRows x = Made.tangled();
        order("at", x, 0, 0, 1, 2, 3);
        order("at", x, 1, 4, 5, 6, 7);
        order("at", x, 2);
        DUE.same("at, far to the right", x.at(0, FAR), NONE);
        DUE.same("at, behind the row", x.at(0, 6), NONE);
        DUE.thrown("at(0, -1)", WRONG, () -> x.at(0, -1));
        DUE.thrown("at(0, far below)", WRONG, () -> x.at(0, FAR_BELOW));
        for (int wrong : new int[] {-1, 4, FAR, FAR_BELOW}) {
            DUE.thrown("at(" + wrong + ", 0)", NO_SUCH, () -> x.at(wrong, 0));
            DUE.thrown("at(" + wrong + ", -1)", NO_SUCH, () -> x.at(wrong, -1));
        }
    }

    private static void crossings() {
        ChronicleRows x = Made.tangled();
        ChronicleRows y = Made.family();
        for (int what = 0; what <= 1; what++) {
            int way = what;
            DUE.same("crossings(0), by " + way, x.crossings(0, way), 0);
            DUE.same("crossings(1), by " + way, x.crossings(1, way), 4);
            DUE.same("crossings(2), by " + way, x.crossings(2, way), 0);
            DUE.same("crossings(1) of a family, by " + way, y.crossings(1, way), 0);
            for (int wrong : new int[] {-1, 4, FAR, FAR_BELOW}) {
                DUE.thrown("crossings(" + wrong + ")", NO_SUCH, () -> x.crossings(wrong, way));
                DUE.thrown("crossings(" + wrong + ", 2)", NO_SUCH, () -> x.crossings(wrong, 2));
            }
        }
        for (int wrong : new int[] {-1, 2, FAR, FAR_BELOW}) {
            DUE.thrown("crossings(0, " + wrong + ")", WRONG, () -> x.crossings(0, wrong));
        }
        // Of the same middle: couples of 0 and 3, and of 1 and 2, have the middle 3.
        ChronicleRows z = Made.withPeople(0, 0, 0, 0);
        z.marry(0, 3);
        z.marry(1, 2);
        z.child(1);
        z.child(0);
        z.child(1);
        DUE.same("crossings of the same middle, by 0", z.crossings(1, 0), 0);
        DUE.same("crossings of the same middle, by 1", z.crossings(1, 1), 0);
    }

    private static void counts(String when, ChronicleRows x, int... want) {
        for (int what = 0; what <= 8; what++) {
            DUE.same(when + ": count(" + what + ")", x.count(what), want[what]);
        }
    }

    private static void count() {
        ChronicleRows x = Made.tangled();
        counts("tangled", x, 8, 3, 4, 4, 4, 2, 0, 0, 6);
        x.marry(5, 7);
        x.marry(4, 5);
        x.marry(0, 3);
        // Of 5 and 7 the ancestors are the same two; 4 is of 2 and 3, 5 of 0 and 1.
        counts("tangled, with kin", x, 8, 5, 4, 4, 4, 3, 1, 1, 6);
        ChronicleRows y = Made.family();
        // Middles and places: 1 and 0, 1 and 1, 3 and 3; 3 and 0; 1 and 0: all bent.
        counts("family", y, 10, 4, 5, 0, 5, 1, 0, 0, 6);
        y.person(0);
        y.swap(0, 2);
        y.undo();
        counts("family, undone", y, 11, 4, 5, 0, 5, 1, 0, 0, 6 - 1);
        for (int wrong : new int[] {-1, 9, FAR, FAR_BELOW}) {
            DUE.thrown("count(" + wrong + ")", WRONG, () -> x.count(wrong));
        }
    }

    private static void leasts(String when, ChronicleRows x, int... want) {
        for (int row = 0; row < 4; row++) {
            DUE.same(when + ": least(" + row + ", 0)", x.least(row, 0), want[row]);
            DUE.same(when + ": least(" + row + ", 1)", x.least(row, 1), want[row]);
        }
    }

    private static void leastOfRows() {
        ChronicleRows x = Made.tangled();
        // The children are of the couples 1 0 2 0, from the left, so that no
        // crossing needs 0 and 1 and 0 and 2 to have one middle, which can't be;
        // as 3 2 1 0 the row 0 gives the middles 1 5 4 5: one crossing.
        leasts("tangled", x, 1, 0, 0, 0);
        order("least changes nothing", x, 0, 0, 1, 2, 3);
        order("least changes nothing", x, 1, 4, 5, 6, 7);
        leasts("without lines", Made.full(), 0, 0, 0, 0);
        ChronicleRows y = new ChronicleRows();
        leasts("empty", y, 0, 0, 0, 0);
        for (int wrong : new int[] {-1, 2, FAR, FAR_BELOW}) {
            DUE.thrown("least(0, " + wrong + ")", WRONG, () -> x.least(0, wrong));
        }
        for (int wrong : new int[] {-1, 4, FAR, FAR_BELOW}) {
            DUE.thrown("least(" + wrong + ", 0)", NO_SUCH, () -> x.least(wrong, 0));
            DUE.thrown("least(" + wrong + ", 2)", NO_SUCH, () -> x.least(wrong, 2));
        }
    }

    /** Lines to a row and from it that can't both be without crossings. */
    private static void leftOffOrders() {
        ChronicleRows x = Made.knot();
        leasts("to and from", x, 0, 2, 0, 0);
        DUE.same("to and from: untangle(1)", x.untangle(1), 2);
        order("to and from", x, 1, 4, 6, 7, 5);
    }

    private static void bestSwap() {
        // From the left 5 1 2 1: each exchange in the row 1 takes one crossing
        // off but the one of 5 and 6; the first is that of the places 0 and 1.
        // In the row 0: 1 0 2 3: 5 1 3 1, 4; 0 2 1 3: 4 2 1 2, 4; 0 1 3 2: 5 1 3 1, 4.
        ChronicleRows x = Made.tangled();
        DUE.same("bestSwap", x.bestSwap(), 10);
        order("bestSwap changes nothing", x, 1, 4, 5, 6, 7);
        x.swap(1, 0);
        DUE.same("bestSwap, places 1 and 2", x.bestSwap(), 11);
        x.untangle(1);
        DUE.same("bestSwap, without crossings", x.bestSwap(), NONE);
        // Middles from the left 5 5 1: only the exchange of the places 1 and 2 takes a crossing off.
        ChronicleRows y = Made.withPeople(0, 0, 0, 0);
        y.marry(0, 1);
        y.marry(2, 3);
        y.child(1);
        y.child(1);
        y.child(0);
        DUE.same("bestSwap, the best one", y.bestSwap(), 11);
        // Middles from the left 2 1: the exchange of 1 and 2 and that of the children both leave no crossing.
        ChronicleRows z = Made.withPeople(0, 0, 0);
        z.marry(0, 1);
        z.marry(0, 2);
        z.child(1);
        z.child(0);
        DUE.same("bestSwap, of several the least", z.bestSwap(), 1);
        DUE.same("bestSwap of an empty chronicle", new ChronicleRows().bestSwap(), NONE);
    }

    private static void near(ChronicleRows x, int person, int other, int want) {
        DUE.same("nearness(" + person + ", " + other + ")", x.nearness(person, other), want);
        DUE.same("nearness(" + other + ", " + person + ")", x.nearness(other, person), want);
    }

    private static void nearness() {
        ChronicleRows x = Made.family();
        near(x, 0, 0, 0);
        near(x, 8, 8, 0);
        near(x, 0, 1, NONE);
        near(x, 0, 3, 1);
        near(x, 3, 4, 2);
        near(x, 3, 9, 2);
        near(x, 0, 6, 2);
        near(x, 3, 6, 3);
        near(x, 9, 8, 4);
        near(x, 0, 8, 3);
        near(x, 5, 4, NONE);
        near(x, 7, 6, NONE);
        near(x, 2, 8, NONE);
        // 4 and 5 have the ancestors 0 to 3 in common: the nearest ones count.
        ChronicleRows kin = Made.withPeople(0, 0);
        kin.marry(0, 1);
        kin.child(0);
        kin.child(0);
        kin.marry(2, 3);
        kin.child(1);
        kin.child(1);
        near(kin, 4, 5, 2);
        near(kin, 4, 2, 1);
        near(kin, 4, 0, 2);
        for (int wrong : new int[] {-1, 10, FAR, FAR_BELOW}) {
            DUE.thrown("nearness(0, " + wrong + ")", NO_SUCH, () -> x.nearness(0, wrong));
            DUE.thrown("nearness(" + wrong + ", 0)", NO_SUCH, () -> x.nearness(wrong, 0));
        }
    }

    private static void straightShare() {
        ChronicleRows x = Made.withPeople(0, 0, 0);
        DUE.same("straightShare without lines", x.straightShare(), 1.0);
        x.marry(0, 2);
        x.child(0);
        DUE.same("straightShare, bent", x.straightShare(), 0.0);
        x.child(0);
        DUE.same("straightShare, one of two", x.straightShare(), 0.5);
        x.child(0);
        DUE.same("straightShare, one of three", x.straightShare(), 1.0 / 3.0);
        x.marry(0, 1);
        x.swap(0, 1);
        // Now 0 and 2 have the middle 1, so that no line is straight.
        DUE.same("straightShare, none of three", x.straightShare(), 0.0);
        ChronicleRows y = Made.withPeople(0, 0, 0, 1);
        y.marry(0, 2);
        y.child(0);
        DUE.same("straightShare, all", y.straightShare(), 1.0);
    }

    private static void digest() {
        ChronicleRows x = new ChronicleRows();
        DUE.same("digest of an empty chronicle", x.digest(), EMPTY_DIGEST);
        DUE.same("digest of an empty chronicle", x.digest(), Hash.ofAnswers(x, 0, ""));
        Made.type(x, "0;~");
        x.keep(1);
        DUE.same("digest with a text and a slot", x.digest(), Hash.ofAnswers(x, 2, "0;~"));
        x.keep(0);
        DUE.same("digest with both slots", x.digest(), Hash.ofAnswers(x, 3, "0;~"));
        for (ChronicleRows each : new ChronicleRows[] {Made.tangled(), Made.family(), Made.full()}) {
            long hash = each.digest();
            DUE.same("digest", hash, Hash.ofAnswers(each, 0, ""));
            DUE.same("digest once more", each.digest(), hash);
        }
        for (ChronicleRows each : new ChronicleRows[] {Made.tangled(), Made.family(), Made.full()}) {
            each.byParents(1);
            DUE.same("digest by parents", each.digest(), Hash.ofAnswers(each, 0, ""));
        }
        // Shares of many lines: 1 of n, and so on, each with its own bits.
        for (int children = 1; children <= 6; children++) {
            ChronicleRows y = Made.withPeople(0, 0, 0, 0, 0, 0);
            y.marry(0, 5);
            y.marry(1, 3);
            y.marry(2, 3);
            for (int child = 0; child < children; child++) {
                y.child(child % 3);
                y.byParents(1);
            }
            DUE.same("digest of a share", y.digest(), Hash.ofAnswers(y, 0, ""));
        }
    }

    /** Worked out apart from the program, by the list of the document. */
    private static final long EMPTY_DIGEST = 2805231491518146382L;
}
