/** Primes, roots and waves, each told once more in its plainest form. */
final class ByHand {
    private ByHand() {
    }

    static int prime(int n) {
        int p = 1001;
        while ((p - 1) % n != 0 || !isPrime(p)) {
            p++;
        }
        return p;
    }

    private static boolean isPrime(int p) {
        for (int f = 2; f < p; f++) {
            if (p % f == 0) {
                return false;
            }
        }
        return true;
    }

    /** The least number that comes to 1 in n steps and not ahead. */
    static int root(int n) {
        int p = prime(n);
        for (int w = 1; ; w++) {
            int steps = 1;
            for (int power = w; power != 1; power = power * w % p) {
                steps++;
            }
            if (steps == n) {
                return w;
            }
        }
    }

    /** The root times itself, direction times place often. */
    static int wave(int n, int direction, int place) {
        int p = prime(n);
        int w = root(n);
        int power = 1;
        for (int step = 0; step < direction * place; step++) {
            power = power * w % p;
        }
        return power;
    }

    static int inverse(int a, int p) {
        for (int b = 1; b < p; b++) {
            if ((long) a * b % p == 1) {
                return b;
            }
        }
        throw new IllegalArgumentException("none for " + a);
    }
}
