/** Objects that have much to lose when a call that throws changes something. */
final class Made {
    private Made() {
    }

    /** All has been told of it, and its run had something of everything; share 2 has no value. */
    static TileShares fullOfLife() {
        TileShares x = new TileShares(3, 10);
        x.share(0, 3, 4, 100);
        x.share(1, 2, 6, -5);
        x.share(2, 4, 4, 7);
        x.need(1, 1, 0, 2);
        x.need(2, 3, 1, 2);
        x.failing(2, 1, 1, 2);
        x.stop(1);
        x.run(3, 10);
        return x;
    }

    static TileShares withAllNeeds() {
        TileShares x = fullOfLife();
        x.free(0);
        for (int k = 0; k < 6; k++) {
            x.need(0, 1, 1, 1);
        }
        return x;
    }

    static TileShares withAllFailings() {
        TileShares x = fullOfLife();
        for (int k = x.told(2); k < 8; k++) {
            x.failing(k, 0, 2, 1);
        }
        return x;
    }
}
