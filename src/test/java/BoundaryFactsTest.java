/** The boundary cases of where all were: promises 27 to 30. */
public final class BoundaryFactsTest extends Boundaries {
    public static void main(String[] args) {
        new BoundaryFactsTest().runAll();
    }

    private static SoldWithIt four() {
        return street("05;13", "o0g1o-l0");
    }

    private static SoldWithIt five() {
        return street("05;13", "o0g1o-l0o-");
    }

    private static SoldWithIt eightFacts() {
        SoldWithIt x = rich();
        for (int i = 1; i < 8; i++) {
            x.fact(1, 2);
        }
        return x;
    }

    // ---- facts

    @Says("FACTS, 8 at most")
    void facts_1_8AtMost() {
        SoldWithIt x = new SoldWithIt();
        for (int n = 1; n <= 8; n++) {
            due(x.fact(0, 0), n);
        }
        due(x.fact(0, 0), FULL);
        due(x.count(5), 8);
    }

    @Says("FACTS, 8 at most")
    void facts_1_theEighthCounts() {
        SoldWithIt x = street("75", "o-o-");
        x.sale(0, 1);
        for (int i = 1; i < 8; i++) {
            x.fact(1, 1);
        }
        due(x.were(NONE), 4);
        x.fact(0, 1);
        due(x.were(NONE), 2);
        due(x.bed(), 1);
    }

    @Says("one of the PEOPLE (0 to 7) has a KEEPER (0 to 7)")
    void facts_1_of0And7ThereOrNot() {
        SoldWithIt x = new SoldWithIt();
        due(x.fact(0, 7), 1);
        due(x.fact(7, 0), 2);
    }

    @Says("behind all SALES")
    void facts_1_behindAllSales() {
        SoldWithIt x = street("75;73", "o-o-o-");
        x.law(2, 0);
        x.sale(0, 1);
        x.fact(0, 1);
        due(x.were(0), 1);
        x.sale(0, 2);
        due(x.were(0), 0);
        x.undo();
        due(x.were(0), 1);
    }

    // ---- ways

    @Says("4 PEOPLE at most (else FULL)")
    void facts_2_FULL_from5On() {
        SoldWithIt x = four();
        due(x.were(NONE), 81);
        due(x.bed(), 0);
        type(x, 1, "o-");
        due(x.were(NONE), FULL);
        due(x.bed(), FULL);
        type(x, 1, "o-o-o-");
        due(x.were(7), FULL);
        due(x.bed(), FULL);
    }

    @Says("in how many ways 4 PEOPLE at most (else FULL) can have been placed")
    void facts_2_fromOneWayToAll() {
        due(new SoldWithIt().were(NONE), 1);
        due(street("", "o-o-o-o-").were(NONE), 1);
        due(street("70;71;72;73;74;75;76;77", "o-o-o-o-").were(NONE), 6561);
    }

    @Says("(all, locked ones, too)")
    void facts_2_lockedOnesToo() {
        SoldWithIt x = street("75;73", "l0l1");
        due(x.were(NONE), 9);
        due(x.were(0), 259);
        due(x.were(1), 259);
    }

    @Says("(one of somebody who is not there: in none)")
    void facts_2_ofSomebodyWhoIsNotThere() {
        SoldWithIt x = street("75;73", "o0o1");
        x.fact(2, 2);
        due(x.were(NONE), 0);
        due(x.were(0), 0);
        type(x, 1, "o-");
        due(x.were(NONE), 27);
        x.forget();
        x.fact(3, 0);
        due(x.were(NONE), 0);
        x.forget();
        x.fact(7, 7);
        due(x.were(NONE), 0);
    }

    @Says("so that all FACTS are so")
    void facts_2_aKeeperWhoIsNotThere() {
        SoldWithIt x = street("75;73", "o0o1");
        x.fact(0, 7);
        due(x.were(NONE), 0);
        due(x.bed(), 3);
        x.forget();
        x.fact(0, 4);
        due(x.were(NONE), 0);
    }

    @Says("so that all FACTS are so")
    void facts_2_factsThatCannotAllBeSo() {
        SoldWithIt x = street("75;73", "o0o1");
        x.sale(0, 1);
        x.fact(0, 0);
        due(x.were(NONE), 6);
        x.fact(0, 1);
        due(x.were(NONE), 0);
        due(x.were(0), 0);
        due(x.were(1), 0);
    }

    @Says("as bits (bit 8: the street)")
    void facts_2_theStreetIsBit8() {
        SoldWithIt x = street("", "o-");
        due(x.were(0), 256);
        type(x, 0, "75");
        due(x.were(0), 257);
        x.sale(0, 0);
        x.fact(0, 0);
        due(x.were(0), 257);
    }

    @Says("where one can have been, as bits")
    void facts_2_theLastHouseIsBit7() {
        SoldWithIt x = street("70;71;72;73;74;75;76;77", "o-o-");
        due(x.were(0), 511);
        x.sale(7, 1);
        x.fact(0, 1);
        due(x.were(0), 128);
        due(x.were(1), 511);
    }

    @Says("in no such way have been where they are told")
    void facts_3_fromNobodyToAll() {
        SoldWithIt x = street("75;73", "o0l0o-g1");
        x.sale(0, 3);
        due(x.bed(), 0);
        x.fact(0, 0);
        due(x.bed(), 1);
        x.fact(1, 1);
        due(x.bed(), 3);
        x.fact(2, 3);
        due(x.bed(), 7);
        x.fact(3, 0);
        due(x.bed(), 15);
    }

    @Says("where they are told, as bits")
    void facts_3_toldInNoHouseIsTheStreet() {
        SoldWithIt x = street("75", "o7o-");
        x.sale(0, 1);
        x.fact(0, 0);
        due(x.bed(), 0);
        x.fact(0, 1);
        due(x.bed(), 3);
        x.forget();
        x.fact(0, 1);
        due(x.bed(), 1);
    }

    // ---- promises 27 and 28: fact, forget

    @Says("A FACT more: how many")
    void promise27_1_theFirstAndTheEighth() {
        SoldWithIt x = new SoldWithIt();
        due(x.fact(1, 1), 1);
        for (int i = 2; i < 8; i++) {
            x.fact(1, 1);
        }
        due(x.fact(1, 1), 8);
    }

    @Says("BAD")
    void promise27_2_BAD_person() {
        refused(BAD, x -> x.fact(-1, 0));
        refused(BAD, x -> x.fact(8, 0));
    }

    @Says("BAD")
    void promise27_2_BAD_keeper() {
        refused(BAD, x -> x.fact(0, -1));
        refused(BAD, x -> x.fact(0, 8));
    }

    @Says("FULL")
    void promise27_2_FULL() {
        refused(FULL, BoundaryFactsTest::eightFacts, x -> x.fact(0, 0));
    }

    @Says("FACTS are forgotten: how many")
    void promise28_1_noneAndEight() {
        SoldWithIt x = new SoldWithIt();
        due(x.forget(), 0);
        x = eightFacts();
        due(x.were(NONE), 0);
        due(x.forget(), 8);
        due(x.were(NONE), 64);
        due(x.forget(), 0);
        due(x.count(5), 0);
        due(x.fact(0, 0), 1);
    }

    // ---- promises 29 and 30: were, bed

    @Says("how many ways (person = NONE)")
    void promise29_1_NONE_howManyWays() {
        SoldWithIt x = street("75;73", "o0o1");
        due(x.were(NONE), 9);
        x.fact(5, 5);
        due(x.were(NONE), 0);
    }

    @Says("where one can have been, as bits")
    void promise29_1_theLastOfThePeople() {
        SoldWithIt x = four();
        x.sale(1, 0);
        x.fact(3, 0);
        due(x.were(3), 2);
        due(x.were(0), 259);
    }

    @Says("BAD")
    void promise29_2_BAD() {
        refused(BAD, x -> x.were(-2));
        refused(BAD, x -> x.were(3));
        refused(BAD, SoldWithIt::new, x -> x.were(0));
        refused(BAD, BoundaryFactsTest::five, x -> x.were(5));
    }

    @Says("FULL")
    void promise29_2_FULL() {
        for (int person = -1; person <= 4; person++) {
            int p = person;
            refused(FULL, BoundaryFactsTest::five, x -> x.were(p));
        }
    }

    @Says("BED, as bits")
    void promise30_1_ofNobodyAndOfFour() {
        SoldWithIt x = new SoldWithIt();
        due(x.bed(), 0);
        x.fact(0, 0);
        due(x.bed(), 0);
        x = four();
        due(x.bed(), 0);
        x.fact(7, 7);
        due(x.bed(), 15);
    }

    @Says("FULL")
    void promise30_2_FULL() {
        refused(FULL, BoundaryFactsTest::five, SoldWithIt::bed);
    }
}
