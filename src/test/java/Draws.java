/** The document's draws, made here once more. */
final class Draws {
    private long x;

    Draws(long x) {
        this.x = x;
    }

    int below(int n) {
        x = x * 6364136223846793005L + 1442695040888963407L;
        return (int) ((x >>> 33) % n);
    }

    String name() {
        int letters = 1 + below(3);
        StringBuilder all = new StringBuilder();
        for (int k = 0; k < letters; k++) {
            all.append("abc".charAt(below(3)));
        }
        return all.toString();
    }
}
