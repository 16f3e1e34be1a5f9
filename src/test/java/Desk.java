/** The calls of the document's face, so that a test can make the same ones of the class and of the model. */
interface Desk {
    int power(int b, int e);

    boolean leaf(int b, int y);

    boolean equal(int b, int y, int d, int w);

    boolean join(boolean all);

    boolean discard();

    int accept();

    boolean tell(int leaf, int x);

    int witness(int leaf);

    boolean known();

    int commit(int seed);

    int respond(int c);

    int simulate(int c, int seed);

    int prove(int seed);

    int hash();

    boolean verify();

    int challenge();

    int part(int leaf, int what);

    boolean change(int leaf, int what, int v);

    boolean save();

    int extract();
}
