/** The digest as the document tells it, from the answers of the other calls. */
final class Digest {
    private long hash = 2683;

    private Digest() {
    }

    /** No call tells the characters of the buffer, so the caller tells them. */
    static long of(SkipRows x, String buffer) {
        Digest digest = new Digest();
        digest.mixTable(x);
        digest.mixReaders(x);
        digest.mixGroups(x);
        digest.mix(x.ifPassed(10, 0));
        digest.mix(x.ifPassed(10, 1));
        digest.mix(x.freest());
        digest.mix(Double.doubleToLongBits(x.fairness()));
        digest.mix(buffer.length());
        for (char sign : buffer.toCharArray()) {
            digest.mix(sign);
        }
        return digest.hash;
    }

    private void mix(long value) {
        hash = 31 * hash + value;
    }

    private void mixTable(SkipRows x) {
        for (int what = 0; what <= 12; what++) {
            mix(x.count(what));
        }
        for (int setting = 0; setting <= 3; setting++) {
            mix(x.setting(setting));
        }
        for (int row = 0; row < x.count(1); row++) {
            for (int what = 0; what <= 10; what++) {
                mix(x.row(row, what));
            }
        }
    }

    private void mixReaders(SkipRows x) {
        for (int reader = 0; reader <= 3; reader++) {
            for (int what = 0; what <= 6; what++) {
                mix(x.reader(reader, what));
            }
            for (int what = 0; what <= 2; what++) {
                mix(x.ifTaken(reader, 24, what));
            }
        }
    }

    private void mixGroups(SkipRows x) {
        for (int key = 0; key <= 7; key++) {
            for (int what = 0; what <= 3; what++) {
                mix(x.group(key, SkipRows.NONE, what));
            }
        }
    }
}
