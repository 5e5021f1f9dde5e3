import java.io.IOException;

/** For each sentence of the document that names a boundary case, a test of its own, named by the promise and the words. */
public final class BoundaryTest {
    private BoundaryTest() {
    }

    public static void main(String[] args) throws IOException {
        Ledger ledger = new Ledger();
        new PointBoundaries(ledger).run();
        new DrawingBoundaries(ledger).run();
        new PlaceBoundaries(ledger).run();
        new HandBoundaries(ledger).run();
        new SettlingBoundaries(ledger).run();
        new LastNumberBoundaries(ledger).run();
        new RefusalBoundaries(ledger).run();
        if (!ledger.close()) System.exit(1);
    }
}
