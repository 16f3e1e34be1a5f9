/** A new SigmaDesk; more calls than the document promises anything for are a fault of the test. */
final class RealDesk implements Desk {
    private static final int MOST_CALLS = 512;

    private final SigmaDesk desk = new SigmaDesk();
    private int calls = 0;

    private SigmaDesk next() {
        calls++;
        if (calls > MOST_CALLS) {
            throw new IllegalStateException("a test made more than " + MOST_CALLS + " calls");
        }
        return desk;
    }

    @Override
    public int power(int b, int e) {
        return next().power(b, e);
    }

    @Override
    public boolean leaf(int b, int y) {
        return next().leaf(b, y);
    }

    @Override
    public boolean equal(int b, int y, int d, int w) {
        return next().equal(b, y, d, w);
    }

    @Override
    public boolean join(boolean all) {
        return next().join(all);
    }

    @Override
    public boolean discard() {
        return next().discard();
    }

    @Override
    public int accept() {
        return next().accept();
    }

    @Override
    public boolean tell(int leaf, int x) {
        return next().tell(leaf, x);
    }

    @Override
    public int witness(int leaf) {
        return next().witness(leaf);
    }

    @Override
    public boolean known() {
        return next().known();
    }

    @Override
    public int commit(int seed) {
        return next().commit(seed);
    }

    @Override
    public int respond(int c) {
        return next().respond(c);
    }

    @Override
    public int simulate(int c, int seed) {
        return next().simulate(c, seed);
    }

    @Override
    public int prove(int seed) {
        return next().prove(seed);
    }

    @Override
    public int hash() {
        return next().hash();
    }

    @Override
    public boolean verify() {
        return next().verify();
    }

    @Override
    public int challenge() {
        return next().challenge();
    }

    @Override
    public int part(int leaf, int what) {
        return next().part(leaf, what);
    }

    @Override
    public boolean change(int leaf, int what, int v) {
        return next().change(leaf, what, v);
    }

    @Override
    public boolean save() {
        return next().save();
    }

    @Override
    public int extract() {
        return next().extract();
    }
}
