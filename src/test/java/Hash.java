import java.util.ArrayList;
import java.util.List;

/** The hash of promise 24, by the answers that an object gives to the calls of its list. */
final class Hash {
    private Hash() {
    }

    /** What is in the slots is told as bits: 1 for the first one, 2 for the second. */
    static List<Long> values(ChronicleRows x, int inSlots, String text) {
        List<Long> values = new ArrayList<>();
        for (int what = 0; what <= 8; what++) {
            values.add((long) x.count(what));
        }
        for (int person = 0; person < x.count(0); person++) {
            for (int what = 0; what <= 6; what++) {
                values.add((long) x.personOf(person, what));
            }
        }
        for (int couple = 0; couple < x.count(1); couple++) {
            for (int what = 0; what <= 5; what++) {
                values.add((long) x.coupleOf(couple, what));
            }
        }
        for (int row = 0; row < 4; row++) {
            for (int place = 0; place <= 5; place++) {
                values.add((long) x.at(row, place));
            }
            values.add((long) x.crossings(row, 0));
            values.add((long) x.crossings(row, 1));
        }
        for (int row = 0; row < 4; row++) {
            values.add((long) x.least(row, 0));
            values.add((long) x.least(row, 1));
        }
        values.add((long) x.bestSwap());
        for (int person = 0; person < x.count(0); person++) {
            values.add((long) x.nearness(0, person));
        }
        values.add(Double.doubleToLongBits(x.straightShare()));
        values.add((long) (inSlots & 1));
        values.add((long) (inSlots >> 1));
        values.add((long) text.length());
        for (int index = 0; index < text.length(); index++) {
            values.add((long) text.charAt(index));
        }
        return values;
    }

    static long ofAnswers(ChronicleRows x, int inSlots, String text) {
        long hash = 3727;
        for (long value : values(x, inSlots, text)) {
            hash = 31 * hash + value;
        }
        return hash;
    }
}
