/** A FRACTION in lowest terms, below the line above 0; what grows too large throws. */
record Frac(long above, long below) implements Comparable<Frac> {
    static Frac of(long above, long below) {
        long a = Math.abs(above);
        long b = Math.abs(below);
        while (b != 0) {
            long rest = a % b;
            a = b;
            b = rest;
        }
        long by = below < 0 ? -a : a;
        return new Frac(above / by, below / by);
    }

    static Frac of(long whole) {
        return new Frac(whole, 1);
    }

    Frac plus(Frac o) {
        return of(Math.addExact(Math.multiplyExact(above, o.below), Math.multiplyExact(o.above, below)),
                Math.multiplyExact(below, o.below));
    }

    Frac times(long by) {
        return of(Math.multiplyExact(above, by), below);
    }

    Frac by(long by) {
        return of(above, Math.multiplyExact(below, by));
    }

    @Override
    public int compareTo(Frac o) {
        return Long.compare(Math.multiplyExact(above, o.below), Math.multiplyExact(o.above, below));
    }
}
