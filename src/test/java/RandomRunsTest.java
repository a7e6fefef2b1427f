import java.util.function.Supplier;

/**
 * Long runs of calls, each answer compared with the oracle's. The calls are
 * drawn by a fixed sequence, so that every run of this test is the same.
 */
final class RandomRunsTest {
    private static final int RUNS = 150;
    private static final int CALLS = 512;
    private static final int[] FAR = {Integer.MIN_VALUE, Integer.MAX_VALUE, -1, 100, Integer.MAX_VALUE - 1, 1 << 30};
    private static final String[] PIECES = {"0", "1", "2", "3", "+0&1", "+2&3", "+10&12", "+19&0", "^0", "^1", "^2",
        "^9", ";", ";", ";", ";", "+", "&", "1", "4", "01", "20", "x", "~", "!", "+5&5", "+4&7", "^3", "^4", "+11&9"};

    private static final Due DUE = new Due();

    private final int run;
    private final ChronicleRows program = new ChronicleRows();
    private final Oracle oracle = new Oracle();
    private final Draw draw;
    private int calls;

    private RandomRunsTest(int run) {
        this.run = run;
        this.draw = new Draw(run);
    }

    public static void main(String[] args) {
        for (int run = 0; run < RUNS && DUE.wrong() == 0; run++) {
            new RandomRunsTest(run).go();
        }
        DUE.end();
    }

    /** Mostly 0 to bound - 1; now and then a number beside these, or far off. */
    private int number(int bound) {
        int kind = draw.below(60);
        if (kind == 0) {
            return FAR[draw.below(FAR.length)];
        }
        if (kind == 1) {
            return -1;
        }
        return kind == 2 || bound < 1 ? Math.max(bound, 0) : draw.below(bound);
    }

    /** No call is made behind the last one that is promised: what it answers is free. */
    private void same(String what, Supplier<Object> ofProgram, Supplier<Object> ofOracle) {
        if (calls >= CALLS) {
            return;
        }
        calls++;
        DUE.alike("run " + run + ", call " + calls + ": " + what, ofProgram, ofOracle);
    }

    private void go() {
        // Runs of unlike kinds: of slow growth and fast, with many exchanges or few.
        int growth = 10 + 10 * (run % 5);
        while (calls < CALLS && DUE.wrong() == 0) {
            int kind = draw.below(100);
            if (kind < growth) {
                grow();
            } else if (kind < 75) {
                change();
            } else if (kind < 97) {
                look();
            } else {
                same("digest", program::digest, oracle::digest);
            }
        }
    }

    private void grow() {
        int kind = draw.below(10);
        if (kind < 3) {
            int row = number(run % 3 == 0 ? 4 : 2);
            same("person(" + row + ")", () -> program.person(row), () -> oracle.person(row));
        } else if (kind < 6) {
            int one = number(oracle.people());
            int other = number(oracle.people());
            same("marry(" + one + ", " + other + ")", () -> program.marry(one, other), () -> oracle.marry(one, other));
        } else {
            int couple = number(oracle.couples());
            same("child(" + couple + ")", () -> program.child(couple), () -> oracle.child(couple));
        }
    }

    private void change() {
        int kind = draw.below(12);
        if (kind < 3) {
            int row = number(4);
            int place = number(5);
            same("swap(" + row + ", " + place + ")", () -> program.swap(row, place), () -> oracle.swap(row, place));
        } else if (kind == 3) {
            int row = number(4);
            same("byParents(" + row + ")", () -> program.byParents(row), () -> oracle.byParents(row));
        } else if (kind == 4) {
            int row = number(4);
            same("untangle(" + row + ")", () -> program.untangle(row), () -> oracle.untangle(row));
        } else if (kind == 5) {
            int slot = number(2);
            same("keep(" + slot + ")", () -> program.keep(slot), () -> oracle.keep(slot));
        } else if (kind == 6 && draw.below(3) == 0) {
            int slot = number(2);
            same("goBack(" + slot + ")", () -> program.goBack(slot), () -> oracle.goBack(slot));
        } else if (kind == 7 && draw.below(3) == 0) {
            for (int times = draw.below(8); times >= 0; times--) {
                same("undo()", program::undo, oracle::undo);
            }
        } else {
            tell();
        }
    }

    private void tell() {
        int kind = draw.below(8);
        if (kind == 0) {
            same("clearBuffer()", program::clearBuffer, oracle::clearBuffer);
        } else if (kind == 1) {
            same("run()", program::run, oracle::run);
            same("firstError()", program::firstError, oracle::firstError);
        } else if (kind == 2) {
            int code = number(140);
            same("append(" + code + ")", () -> program.append(code), () -> oracle.append(code));
        } else {
            String piece = PIECES[draw.below(PIECES.length)];
            for (int index = 0; index < piece.length(); index++) {
                int code = piece.charAt(index);
                same("append(" + code + ")", () -> program.append(code), () -> oracle.append(code));
            }
            if (kind < 6 && draw.below(2) == 0) {
                same("append(;)", () -> program.append(';'), () -> oracle.append(';'));
            }
            same("firstError()", program::firstError, oracle::firstError);
        }
    }

    private void look() {
        int what = number(9);
        int person = number(oracle.people());
        int other = number(oracle.people());
        int couple = number(oracle.couples());
        int row = number(4);
        int place = number(6);
        int way = number(2);
        String of = "(" + person + ", " + other + ", " + couple + ", " + row + ", " + place + "; " + what + ")";
        switch (draw.below(8)) {
            case 0:
                same("personOf" + of, () -> program.personOf(person, what), () -> oracle.personOf(person, what));
                break;
            case 1:
                same("coupleOf" + of, () -> program.coupleOf(couple, what), () -> oracle.coupleOf(couple, what));
                break;
            case 2:
                same("at" + of, () -> program.at(row, place), () -> oracle.at(row, place));
                break;
            case 3:
                same("crossings" + of, () -> program.crossings(row, way), () -> oracle.crossings(row, way));
                break;
            case 4:
                same("count" + of, () -> program.count(what), () -> oracle.count(what));
                break;
            case 5:
                same("least" + of, () -> program.least(row, way), () -> oracle.least(row, way));
                break;
            case 6:
                same("nearness" + of, () -> program.nearness(person, other), () -> oracle.nearness(person, other));
                break;
            default:
                same("bestSwap()", program::bestSwap, oracle::bestSwap);
                same("straightShare()", program::straightShare, oracle::straightShare);
        }
    }
}
