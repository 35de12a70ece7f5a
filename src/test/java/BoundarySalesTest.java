/** The boundary cases of the sales: the law, who keeps whom, lengths, promises 7 to 14. */
public final class BoundarySalesTest extends Boundaries {
    public static void main(String[] args) {
        new BoundarySalesTest().runAll();
    }

    private void ownersBehind(SoldWithIt x, int k, int... want) {
        for (int h = 0; h < want.length; h++) {
            due(x.whose(h, k), want[h]);
        }
    }

    private void keepersBehind(SoldWithIt x, int k, int... want) {
        for (int p = 0; p < want.length; p++) {
            due(x.keeper(p, k), want[p]);
        }
    }

    private void timesBehind(SoldWithIt x, int k, int... want) {
        for (int p = 0; p < want.length; p++) {
            due(x.sold(p, k), want[p]);
        }
    }

    private static SoldWithIt twelveSales() {
        SoldWithIt x = street("05;13", "o0o1");
        tellSales(x, 0, 1, 12);
        return x;
    }

    /** 0 is in house 0, and owns house 1: the owners of houses 0 and 2 are not there. */
    private static SoldWithIt ownerInAnothersHouse() {
        return street("70;00;70", "o0o-o-");
    }

    // ---- sales and the law

    @Says("SALES, 12 at most")
    void sales_1_12AtMost() {
        SoldWithIt x = new SoldWithIt();
        for (int n = 1; n <= 12; n++) {
            due(x.sale(0, 0), n);
        }
        due(x.sale(0, 0), FULL);
        due(x.count(4), 12);
    }

    @Says("SALES, 12 at most (0 on)")
    void sales_1_numberedFrom0To11() {
        SoldWithIt x = ring();
        x.sale(4, 0);
        tellSales(x, 7, 7, 10);
        x.sale(2, 2);
        due(x.length(0), 4);
        due(x.length(11), 1);
        due(x.length(12), BAD);
    }

    @Says("a HOUSE (0 to 7) to a BUYER (0 to 7)")
    void sales_1_houseAndBuyerOf0And7() {
        SoldWithIt x = street("00;11;22;33;44;55;66;77", "o-o-o-o-o-o-o-o-");
        due(x.sale(0, 7), 1);
        due(x.sale(7, 0), 2);
        due(x.whose(0, 2), 7);
        due(x.whose(7, 2), 0);
    }

    @Says("there or not")
    void sales_1_toldThoughNothingIsThere() {
        SoldWithIt x = new SoldWithIt();
        due(x.sale(0, 0), 1);
        due(x.sale(7, 7), 2);
        type(x, 0, "75");
        type(x, 1, "o-");
        due(x.whose(0, 1), 0);
    }

    @Says("one of a HOUSE or a BUYER that there is not does nothing")
    void sales_1_ofNoHouseDoesNothing() {
        SoldWithIt x = street("01;12", "o0o1o2");
        x.sale(2, 0);
        ownersBehind(x, 1, 0, 1);
        keepersBehind(x, 1, 0, 1, 2);
        timesBehind(x, 1, 0, 0, 0);
        due(x.length(0), 0);
        x.undo();
        x.sale(0, 1);
        x.sale(7, 0);
        due(x.length(1), 0);
    }

    @Says("one of a HOUSE or a BUYER that there is not does nothing")
    void sales_1_toNobodyDoesNothing() {
        SoldWithIt x = street("01;12", "o0o1");
        x.sale(0, 2);
        ownersBehind(x, 1, 0, 1);
        keepersBehind(x, 1, 0, 1);
        timesBehind(x, 1, 0, 0);
        due(x.length(0), 0);
        x.undo();
        x.sale(0, 1);
        x.sale(1, 7);
        due(x.length(1), 0);
    }

    @Says("LAW (all 1 at first)")
    void sales_2_all1AtFirst() {
        SoldWithIt x = new SoldWithIt();
        for (int what = 0; what <= 2; what++) {
            due(x.law(what, 1), 1);
        }
    }

    @Says("WITHIN (who is in a HOUSE that is sold goes with it)")
    void sales_2_within() {
        SoldWithIt x = street("75;73", "o0g0l0o1o-o-");
        x.sale(0, 5);
        keepersBehind(x, 1, 5, 5, 5, 3, 4, 5);
        x.law(0, 0);
        keepersBehind(x, 1, 0, 1, 2, 3, 4, 5);
        ownersBehind(x, 1, 5, 7);
    }

    @Says("CHAIN (whose KEEPER becomes the BUYER, one's own HOUSES are sold with one)")
    void sales_2_chain() {
        SoldWithIt x = ownerInAnothersHouse();
        x.sale(0, 1);
        ownersBehind(x, 1, 1, 1, 7);
        due(x.length(0), 2);
        x.law(1, 0);
        ownersBehind(x, 1, 1, 0, 7);
        keepersBehind(x, 1, 1, 1, 2);
        due(x.length(0), 1);
    }

    @Says("ONCE (one who was sold already is not sold again)")
    void sales_2_once() {
        SoldWithIt x = ownerInAnothersHouse();
        x.sale(0, 1);
        x.sale(0, 2);
        keepersBehind(x, 2, 1, 1, 2);
        timesBehind(x, 2, 1, 0, 0);
        x.law(2, 0);
        keepersBehind(x, 2, 2, 1, 2);
        timesBehind(x, 2, 2, 0, 0);
    }

    // ---- keepers and sales

    @Says("oneself, until one is sold")
    void keeper_1_oneselfUntilSold() {
        SoldWithIt x = street("75", "o0o-o-o-o-o-o-o-");
        x.sale(0, 7);
        keepersBehind(x, 0, 0, 1, 2, 3, 4, 5, 6, 7);
        keepersBehind(x, 1, 7, 1, 2, 3, 4, 5, 6, 7);
    }

    @Says("all who are in it then, but the BUYER")
    void keeper_2_theBuyerInIt() {
        SoldWithIt x = street("75;03", "o0o0");
        x.sale(0, 0);
        keepersBehind(x, 1, 0, 0);
        timesBehind(x, 1, 0, 1);
        due(x.length(0), 1);
        due(x.whose(1, 1), 0);
    }

    @Says("all who are in it then")
    void keeper_2_nobodyInIt() {
        SoldWithIt x = street("75;73", "o1o-");
        x.sale(0, 0);
        keepersBehind(x, 1, 0, 1);
        due(x.count(6), 0);
        due(x.length(0), 1);
    }

    @Says("the BUYER OWNS the HOUSE")
    void keeper_2_theOwnerBuysIt() {
        SoldWithIt x = street("05", "o-o0");
        x.sale(0, 0);
        due(x.whose(0, 1), 0);
        due(x.length(0), 1);
        keepersBehind(x, 1, 0, 0);
    }

    @Says("(by ONCE not those who were)")
    void keeper_2_housesOfOneNotSoldAgainStay() {
        SoldWithIt x = street("75;73", "o0o-o-");
        x.sale(0, 1);
        x.sale(1, 0);
        x.sale(0, 2);
        ownersBehind(x, 3, 2, 0);
        due(x.length(2), 1);
        x.law(2, 0);
        ownersBehind(x, 3, 2, 2);
        due(x.length(2), 2);
    }

    @Says("each HOUSE that such a one OWNS (from the least on, one behind the other)")
    void keeper_2_sevenHousesOfOne() {
        SoldWithIt x = street("70;00;00;00;00;00;00;00", "o0o7o-");
        x.sale(0, 2);
        due(x.length(0), 8);
        keepersBehind(x, 1, 2, 2, 2);
        ownersBehind(x, 1, 2, 2, 2, 2, 2, 2, 2, 2);
    }

    @Says("by CHAIN each HOUSE that such a one OWNS")
    void keeper_2_housesOfAllWhoAreInIt() {
        SoldWithIt x = street("70;00;10;20", "o0o0o0o-");
        x.sale(0, 3);
        due(x.length(0), 4);
        ownersBehind(x, 1, 3, 3, 3, 3);
    }

    @Says("each HOUSE that such a one OWNS")
    void keeper_2_notWhatOneOwnsNoMore() {
        SoldWithIt x = street("70;00", "o0o-o-");
        x.sale(1, 2);
        x.sale(0, 1);
        due(x.length(1), 1);
        ownersBehind(x, 2, 1, 2);
        keepersBehind(x, 2, 1, 1, 2);
    }

    @Says("with all who are in it, and so on")
    void keeper_2_onThroughAllHouses() {
        SoldWithIt x = ring();
        x.sale(0, 0);
        due(x.length(0), 8);
        ownersBehind(x, 1, 0, 0, 0, 0, 0, 0, 0, 0);
        keepersBehind(x, 1, 0, 0, 0, 0, 0, 0, 0, 0);
        timesBehind(x, 1, 0, 1, 1, 1, 1, 1, 1, 1);
    }

    @Says("each HOUSE that such a one OWNS")
    void keeper_2_onStopsAtTheBuyer() {
        SoldWithIt x = ring();
        x.sale(4, 1);
        due(x.length(0), 3);
        ownersBehind(x, 1, 0, 1, 1, 1, 1, 5, 6, 7);
        keepersBehind(x, 1, 0, 1, 1, 1, 4, 5, 6, 7);
    }

    @Says("in one SALE no HOUSE is sold twice")
    void keeper_2_noHouseTwiceRoundTheRing() {
        SoldWithIt x = street("00;11;22;33;44;55;66", "o1o2o3o4o5o6o0o-");
        x.law(2, 0);
        x.sale(3, 7);
        due(x.length(0), 7);
        timesBehind(x, 1, 1, 1, 1, 1, 1, 1, 1, 0);
    }

    @Says("in one SALE no HOUSE is sold twice")
    void keeper_2_notOnesOwnHouseAgain() {
        SoldWithIt x = street("05", "o0o-");
        x.law(2, 0);
        x.sale(0, 1);
        due(x.length(0), 1);
        timesBehind(x, 1, 1, 0);
    }

    @Says("how many HOUSES are sold by it")
    void keeper_3_from0To8() {
        SoldWithIt x = ring();
        x.sale(0, 0);
        due(x.length(0), 8);
        x.undo();
        x.sale(0, 7);
        due(x.length(0), 1);
        x.wipe(0);
        due(x.length(0), 0);
    }

    @Says("PEOPLE do not move")
    void keeper_4_soldAgainWithTheSameHouse() {
        SoldWithIt x = street("75;70", "o0o1o-");
        x.law(1, 0);
        x.law(2, 0);
        x.sale(0, 1);
        x.sale(1, 2);
        due(x.person(0, 1), 0);
        keepersBehind(x, 2, 1, 2, 2);
        x.sale(0, 2);
        keepersBehind(x, 3, 2, 2, 2);
    }

    @Says("behind k SALES (0 to as many as there are)")
    void keeper_5_behindNoneAndAll() {
        SoldWithIt x = street("05;13", "o-o-");
        due(x.whose(0, 0), 0);
        due(x.whose(0, 1), BAD);
        x.sale(0, 1);
        x.sale(1, 0);
        ownersBehind(x, 0, 0, 1);
        ownersBehind(x, 1, 1, 1);
        ownersBehind(x, 2, 1, 0);
        due(x.whose(0, 3), BAD);
    }

    // ---- promise 7: law

    @Says("what it was")
    void promise07_1_whatItWas() {
        SoldWithIt x = new SoldWithIt();
        for (int what = 0; what <= 2; what++) {
            due(x.law(what, 0), 1);
            due(x.law(what, 0), 0);
            due(x.law(what, 1), 0);
            due(x.law(what, 1), 1);
        }
    }

    @Says("WITHIN (what = 0), CHAIN (1), ONCE (2)")
    void promise07_1_eachByItself() {
        for (int off = 0; off <= 2; off++) {
            SoldWithIt x = new SoldWithIt();
            x.law(off, 0);
            for (int what = 0; what <= 2; what++) {
                due(x.law(what, 1), what == off ? 0 : 1);
            }
        }
    }

    @Says("BAD")
    void promise07_2_BAD_what() {
        refused(BAD, x -> x.law(-1, 0));
        refused(BAD, x -> x.law(3, 0));
        refused(BAD, x -> x.law(32, 0));
    }

    @Says("BAD")
    void promise07_2_BAD_v() {
        for (int what = 0; what <= 2; what++) {
            int w = what;
            refused(BAD, x -> x.law(w, -1));
            refused(BAD, x -> x.law(w, 2));
        }
    }

    // ---- promise 8: sale

    @Says("A SALE more: how many")
    void promise08_1_theFirstAndTheTwelfth() {
        SoldWithIt x = new SoldWithIt();
        due(x.sale(0, 0), 1);
        tellSales(x, 0, 0, 10);
        due(x.sale(0, 0), 12);
    }

    @Says("BAD")
    void promise08_2_BAD_house() {
        refused(BAD, x -> x.sale(-1, 0));
        refused(BAD, x -> x.sale(8, 0));
    }

    @Says("BAD")
    void promise08_2_BAD_buyer() {
        refused(BAD, x -> x.sale(0, -1));
        refused(BAD, x -> x.sale(0, 8));
    }

    @Says("FULL")
    void promise08_2_FULL() {
        refused(FULL, BoundarySalesTest::twelveSales, x -> x.sale(1, 0));
    }

    // ---- promise 9: read

    @Says("two for each (HOUSE, BUYER), as many as are whole")
    void promise09_1_halfASaleIsLeft() {
        SoldWithIt x = street("75;73", "o-o-");
        fill(x, 0, 2, 1, 0, 0, 1, 1);
        due(x.read(0), 2);
        ownersBehind(x, 2, 1, 0);
        fill(x, 0, 2, 1);
        due(x.read(0), 0);
        due(x.count(4), 2);
    }

    @Says("as many as are whole")
    void promise09_1_noItems() {
        SoldWithIt x = rich();
        x.sheet(0, 0, 0);
        due(x.read(0), 0);
        due(x.count(4), 2);
    }

    @Says("SALES more, behind those that there are")
    void promise09_1_behindThoseThatThereAre() {
        SoldWithIt x = street("75;73", "o-o-");
        x.sale(0, 0);
        fill(x, 0, 0, 0, 1);
        due(x.read(0), 1);
        ownersBehind(x, 1, 0, 7);
        ownersBehind(x, 2, 1, 7);
    }

    @Says("up to the first that it refuses")
    void promise09_1_upToABadHouse() {
        for (int house : new int[] {8, -1}) {
            SoldWithIt x = street("75;73", "o-o-");
            fill(x, 0, 1, 0, 0, house, 1, 1, 1);
            due(x.read(0), 1);
            due(x.count(4), 1);
        }
    }

    @Says("up to the first that it refuses")
    void promise09_1_upToABadBuyer() {
        for (int buyer : new int[] {8, -1}) {
            SoldWithIt x = street("75;73", "o-o-");
            fill(x, 0, 2, 0, 0, 1, buyer, 1, 1);
            due(x.read(0), 1);
            due(x.count(4), 1);
        }
    }

    @Says("up to the first that it refuses: how many it took")
    void promise09_1_upToTheTwelfth() {
        SoldWithIt x = street("75;73", "o-o-");
        x.sale(0, 0);
        x.sheet(0, 0, 48);
        due(x.read(0), 11);
        due(x.read(0), 0);
        due(x.count(4), 12);
        due(x.count(8), 0);
    }

    @Says("as sale() takes them")
    void promise09_1_salesOfWhatThereIsNot() {
        SoldWithIt x = new SoldWithIt();
        fill(x, 0, 0, 7, 7, 0, 0);
        due(x.read(0), 2);
    }

    @Says("BAD")
    void promise09_2_BAD() {
        refused(BAD, x -> x.read(-1));
        refused(BAD, x -> x.read(4));
    }

    @Says("NULL")
    void promise09_2_NULL() {
        refused(NULL, x -> x.read(3));
        refused(NULL, SoldWithIt::new, x -> x.read(0));
    }

    // ---- promise 10: undo

    @Says("The last SALE is undone: how many are left")
    void promise10_1_downToNone() {
        SoldWithIt x = twelveSales();
        for (int left = 11; left >= 0; left--) {
            due(x.undo(), left);
        }
        due(x.whose(0, 0), 0);
        due(x.sale(0, 0), 1);
    }

    @Says("NOT: none")
    void promise10_2_NOT() {
        refused(NOT, SoldWithIt::new, SoldWithIt::undo);
        refused(NOT, () -> {
            SoldWithIt x = rich();
            x.undo();
            x.undo();
            return x;
        }, SoldWithIt::undo);
    }

    // ---- promises 11 to 14: whose, keeper, sold, length

    @Says("behind k SALES")
    void promise11_1_behindNoneAndTwelve() {
        SoldWithIt x = twelveSales();
        due(x.whose(0, 0), 0);
        due(x.whose(0, 12), 1);
        due(x.whose(0, 0), 0);
    }

    @Says("BAD")
    void promise11_2_BAD_house() {
        refused(BAD, x -> x.whose(-1, 0));
        refused(BAD, x -> x.whose(3, 0));
    }

    @Says("BAD")
    void promise11_2_BAD_k() {
        refused(BAD, x -> x.whose(0, -1));
        refused(BAD, x -> x.whose(0, 3));
        due(rich().whose(2, 2), 2);
    }

    @Says("KEEPER behind k SALES")
    void promise12_1_behindNoneAndTwelve() {
        SoldWithIt x = twelveSales();
        due(x.keeper(0, 0), 0);
        due(x.keeper(0, 12), 1);
        due(x.keeper(0, 0), 0);
    }

    @Says("BAD")
    void promise12_2_BAD_person() {
        refused(BAD, x -> x.keeper(-1, 0));
        refused(BAD, x -> x.keeper(3, 0));
    }

    @Says("BAD")
    void promise12_2_BAD_k() {
        refused(BAD, x -> x.keeper(0, -1));
        refused(BAD, x -> x.keeper(0, 3));
        due(rich().keeper(2, 2), 2);
    }

    @Says("How often one was sold")
    void promise13_1_from0To12Times() {
        SoldWithIt x = twelveSales();
        due(x.sold(0, 0), 0);
        due(x.sold(0, 12), 1);
        x.law(2, 0);
        due(x.sold(0, 12), 12);
        due(x.sold(0, 11), 11);
        due(x.sold(1, 12), 0);
    }

    @Says("BAD")
    void promise13_2_BAD_person() {
        refused(BAD, x -> x.sold(-1, 0));
        refused(BAD, x -> x.sold(3, 0));
    }

    @Says("BAD")
    void promise13_2_BAD_k() {
        refused(BAD, x -> x.sold(0, -1));
        refused(BAD, x -> x.sold(0, 3));
        due(rich().sold(2, 2), 0);
    }

    @Says("LENGTH of a SALE")
    void promise14_1_ofTheFirstAndTheLast() {
        SoldWithIt x = ring();
        x.sale(4, 1);
        x.sale(7, 6);
        due(x.length(0), 3);
        due(x.length(1), 1);
        due(x.length(0), 3);
    }

    @Says("BAD")
    void promise14_2_BAD() {
        refused(BAD, x -> x.length(-1));
        refused(BAD, x -> x.length(2));
        refused(BAD, SoldWithIt::new, x -> x.length(0));
    }
}
