/** Finds an x from which on numbers are drawn as a test needs them. */
final class Draws {
    private Draws() {
    }

    static long next(long x) {
        return (x * 1103515245L + 12345L) % 2147483648L;
    }

    /** The least x from which on numbers are drawn as told, two numbers for each: its bound, and what is drawn. */
    static int as(int... boundsAndDrawn) {
        for (int x = 0; x < 10000000; x++) {
            if (drawsFrom(x, boundsAndDrawn)) {
                return x;
            }
        }
        throw new IllegalArgumentException("no x draws so");
    }

    private static boolean drawsFrom(int first, int[] boundsAndDrawn) {
        long x = first;
        for (int i = 0; i < boundsAndDrawn.length; i += 2) {
            x = next(x);
            if (x / 65536 % boundsAndDrawn[i] != boundsAndDrawn[i + 1]) {
                return false;
            }
        }
        return true;
    }

    /** The least x from which on each number that is drawn below 100 is low (L: below 50), high (H) or any (?). */
    static int like(String heights) {
        int first = 0;
        while (!isLike(first, heights)) {
            first++;
        }
        return first;
    }

    private static boolean isLike(int first, String heights) {
        long x = first;
        for (char height : heights.toCharArray()) {
            x = next(x);
            boolean isLow = x / 65536 % 100 < 50;
            if (height != '?' && isLow != (height == 'L')) {
                return false;
            }
        }
        return true;
    }

    /** What x is behind so many draws. */
    static int after(int first, int draws) {
        long x = first;
        for (int i = 0; i < draws; i++) {
            x = next(x);
        }
        return (int) x;
    }
}
