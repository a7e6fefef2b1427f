import java.util.function.Supplier;

/** Chronicles with as many couples and lines as there is room for: all that can be looked at, against the oracle. */
final class DenseChroniclesTest {
    private static final int CHRONICLES = 250;
    private static final int STIRS = 6;

    private static final Due DUE = new Due();

    private final int number;
    private final Draw draw;
    private final ChronicleRows program = new ChronicleRows();
    private final Oracle oracle = new Oracle();

    private DenseChroniclesTest(int number) {
        this.number = number;
        this.draw = new Draw(1000000 + number);
    }

    public static void main(String[] args) {
        for (int number = 0; number < CHRONICLES && DUE.wrong() == 0; number++) {
            new DenseChroniclesTest(number).go();
        }
        DUE.end();
    }

    private void same(String what, Supplier<Object> ofProgram, Supplier<Object> ofOracle) {
        DUE.alike("chronicle " + number + ": " + what, ofProgram, ofOracle);
    }

    private void go() {
        for (int row = 0; row < 3; row++) {
            people(row, row == 0 || draw.below(3) == 0 ? 3 + draw.below(4) : 0);
            couples(row, 2 + draw.below(4));
            children(draw.below(3) == 0 ? 3 : 6);
        }
        for (int stir = 0; stir < STIRS; stir++) {
            lookAtAll();
            stir();
        }
        lookAtAll();
    }

    private void people(int row, int many) {
        for (int times = 0; times < many; times++) {
            same("person", () -> program.person(row), () -> oracle.person(row));
        }
    }

    private void couples(int row, int many) {
        for (int times = 0; times < 3 * many; times++) {
            int one = oracle.at(row, draw.below(6));
            int other = oracle.at(row, draw.below(6));
            same("marry", () -> program.marry(one, other), () -> oracle.marry(one, other));
        }
    }

    private void children(int many) {
        for (int times = 0; times < many; times++) {
            int couple = Math.max(0, oracle.couples() - 1 - draw.below(6));
            same("child", () -> program.child(couple), () -> oracle.child(couple));
        }
    }

    private void stir() {
        for (int times = 0; times < 4; times++) {
            int row = draw.below(4);
            int place = draw.below(5);
            same("swap", () -> program.swap(row, place), () -> oracle.swap(row, place));
        }
        int row = draw.below(4);
        switch (draw.below(4)) {
            case 0:
                same("untangle", () -> program.untangle(row), () -> oracle.untangle(row));
                break;
            case 1:
                same("byParents", () -> program.byParents(row), () -> oracle.byParents(row));
                break;
            case 2:
                int best = oracle.bestSwap();
                same("the best swap", () -> program.swap(best / 10, best % 10), () -> oracle.swap(best / 10, best % 10));
                break;
            default:
                same("undo", program::undo, oracle::undo);
        }
    }

    private void lookAtAll() {
        for (int row = 0; row < 4; row++) {
            int of = row;
            for (int what = 0; what <= 1; what++) {
                int way = what;
                same("least(" + of + ", " + way + ")", () -> program.least(of, way), () -> oracle.least(of, way));
                same("crossings(" + of + ", " + way + ")", () -> program.crossings(of, way), () -> oracle.crossings(of, way));
            }
        }
        for (int person = 0; person < oracle.people(); person++) {
            int one = person;
            int other = draw.below(oracle.people());
            same("nearness", () -> program.nearness(one, other), () -> oracle.nearness(one, other));
        }
        same("bestSwap", program::bestSwap, oracle::bestSwap);
        same("digest", program::digest, oracle::digest);
    }
}
