/** From an empty vat to a filled order. Behind a line stands what it prints, ahead of the colon. */
final class Example {
    public static void main(String[] args) {
        CandleDip shop = new CandleDip();
        System.out.println(shop.melt(5000));               // 20: the heat of the vat then
        System.out.println(shop.setFire(5));               // 0: the level before
        System.out.println(shop.pass(4));                  // 114: the heat of the vat then
        System.out.println(shop.vat(3));                   // 1: the wax is melted
        System.out.println(shop.setFire(1));               // 5: the level before

        int frame = shop.addFrame(0, 12);
        System.out.println(frame);                         // 0: the number of the first frame
        System.out.println(shop.hang(frame, 6));           // -1: it lay aside
        System.out.println(shop.hook(6));                  // 0: the frame hangs there, on rack 1
        System.out.println(shop.advise());                 // 0: the frame that had best be dipped now
        System.out.println(shop.would(frame, 3));          // 6: without a rest they melt again

        int rest = shop.bestRest(frame, 1);
        System.out.println(rest);                          // 2: quarters between two dips
        int dips = shop.dipsTo(frame, rest, 1);
        System.out.println(dips);                          // 5: so many dips bring the size 1
        for (int i = 1; i < dips; i++) {
            shop.dip(frame);
            shop.pass(rest);                               // a rest of 0 would be no pass at all
        }
        System.out.println(shop.dip(frame));               // 42: the thickness of the candles then
        System.out.println(shop.frame(frame, 3));          // 78: their warmth
        System.out.println(shop.mean());                   // 42.0: there is no other frame

        try {
            shop.cutOff(frame);
        } catch (IllegalStateException e) {
            System.out.println("refused");                 // refused: warmer than 20, nothing is changed
        }
        System.out.println(shop.hang(frame, 0));           // 6: the hook before; rack 0 is in the draught
        System.out.println(shop.pass(5));                  // 83: the heat of the vat then
        System.out.println(shop.cutOff(frame));            // 1: the size of the candles
        System.out.println(shop.store(0, 1));              // 12: candles of kind 0 and size 1
        System.out.println(shop.layAside(frame));          // 0: the hook before

        int order = shop.addOrder(0, 1, 10, 3);
        System.out.println(order);                         // 0: 10 candles of kind 0, size 1, by day 3
        System.out.println(shop.possible());               // 1: it could be filled
        System.out.println(shop.fill(order));              // 2: candles left in the store
        System.out.println(shop.order(order, 4));          // 1: it is filled
        System.out.println(shop.vat(0));                   // 4599: the wax left in the vat
        System.out.println(shop.count(0));                 // 22: the quarter
        System.out.println(shop.digest());                 // 7004132844811761895: the checksum
    }
}
