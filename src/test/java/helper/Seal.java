/** A seal, by the words of the document. */
final class Seal {
    private int bits;

    Seal(int phone) {
        bits = phone;
    }

    Seal event(int kind, int second, int cell) {
        bits = Integer.rotateLeft(bits, 5);
        bits += 31 * second;
        bits ^= 8 * kind + cell;
        return this;
    }

    int done() {
        return bits ^ bits >>> 16;
    }
}
