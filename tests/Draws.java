/** The draws from a seed, as the document tells them, apart from the class. */
final class Draws {
    int seed;

    Draws(int seed) {
        this.seed = seed;
    }

    int next() {
        long product = 1103515245L * seed + 12345L;
        seed = (int) product;
        return (int) (product >> 16 & 32767);
    }

    /** A seed whose first draw is this modulo 100, and its second one that modulo 11. */
    static int seedOf(int storm, int wind) {
        for (int seed = 2;; seed++) {
            Draws draws = new Draws(seed);
            if (draws.next() % 100 == storm && draws.next() % 11 == wind) {
                return seed;
            }
        }
    }

    static int after(int seed, int draws) {
        Draws made = new Draws(seed);
        for (int i = 0; i < draws; i++) {
            made.next();
        }
        return made.seed;
    }
}
