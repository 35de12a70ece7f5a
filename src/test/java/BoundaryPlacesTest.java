/** The boundary cases of worth, liking, places and ways out: promises 15 to 20. */
public final class BoundaryPlacesTest extends Boundaries {
    public static void main(String[] args) {
        new BoundaryPlacesTest().runAll();
    }

    private static SoldWithIt four() {
        return street("05;13", "o0g1o-l0");
    }

    private static SoldWithIt five() {
        return street("05;13", "o0g1o-l0o-");
    }

    /** House 0 is sold to 1; so 0 is kept by 1 there, and by oneself elsewhere. */
    private static SoldWithIt oneMayBeKept(String kind) {
        SoldWithIt x = street("75;73", kind + "-l-");
        x.sale(0, 1);
        return x;
    }

    // ---- worth, gain and liking

    @Says("WORTH of one of the PEOPLE to another one (-9 to 9; 0 at first)")
    void worth_1_0AtFirst() {
        SoldWithIt x = new SoldWithIt();
        for (int to = 0; to < 8; to++) {
            for (int p = 0; p < 8; p++) {
                due(x.worth(to, p, 9), to == p ? ANY_BAD : 0);
            }
        }
    }

    @Says("(-9 to 9;")
    void worth_1_from9Below0To9() {
        SoldWithIt x = new SoldWithIt();
        due(x.worth(0, 1, -9), 0);
        due(x.worth(0, 1, 9), -9);
        due(x.worth(0, 1, 10), ANY_BAD);
        due(x.worth(0, 1, -10), ANY_BAD);
        due(x.worth(0, 1, 0), 9);
    }

    @Says("WORTH of all whom one keeps (not oneself)")
    void worth_2_whoKeepsNobody() {
        SoldWithIt x = street("75", "o-o0");
        x.worth(0, 1, 9);
        due(x.gain(0), 0);
        due(x.gain(1), 0);
    }

    @Says("WORTH of all whom one keeps (not oneself)")
    void worth_2_theFirstAndTheLastOfAllWhomOneKeeps() {
        SoldWithIt x = street("70", "o0o0o-o0");
        x.sale(0, 2);
        x.worth(2, 0, 5);
        due(x.gain(2), 5);
        x.worth(2, 3, -7);
        due(x.gain(2), -2);
        x.worth(2, 1, 9);
        due(x.gain(2), 7);
    }

    @Says("PRICES of HOUSES that one OWNS, behind all SALES")
    void worth_2_behindAllSales() {
        SoldWithIt x = street("05;13", "o-o-");
        due(x.gain(0), 5);
        x.sale(0, 1);
        due(x.gain(0), 0);
        due(x.gain(1), 8);
        x.sale(1, 0);
        due(x.gain(0), 3);
        due(x.gain(1), 5);
    }

    @Says("(-9 to 9; 0 at first; for oneself 0)")
    void worth_3_0AtFirst() {
        SoldWithIt x = new SoldWithIt();
        for (int p = 0; p < 8; p++) {
            for (int keeper = 0; keeper < 8; keeper++) {
                due(x.like(p, keeper, 9), p == keeper ? ANY_BAD : 0);
            }
        }
    }

    @Says("(-9 to 9;")
    void worth_3_from9Below0To9() {
        SoldWithIt x = new SoldWithIt();
        due(x.like(0, 1, -9), 0);
        due(x.like(0, 1, 9), -9);
        due(x.like(0, 1, 10), ANY_BAD);
        due(x.like(0, 1, -10), ANY_BAD);
        due(x.like(0, 1, 0), 9);
    }

    @Says("for oneself 0")
    void worth_3_forOneself0() {
        SoldWithIt x = oneMayBeKept("o");
        x.like(0, 1, -1);
        due(x.rest(-2), 2);
        due(x.rest(0), NONE);
        x.like(0, 1, 0);
        due(x.rest(-2), 3);
        x.like(0, 1, 1);
        due(x.rest(-2), 1);
        due(x.rest(0), 0);
    }

    // ---- best and rest

    @Says("4 PEOPLE at most (else FULL)")
    void placed_1_FULL_from5On() {
        SoldWithIt x = four();
        due(x.best(0, NONE), 5);
        due(x.rest(NONE), 1);
        type(x, 1, "o-");
        due(x.best(0, NONE), ANY_FULL);
        due(x.rest(NONE), ANY_FULL);
        type(x, 1, "o-o-o-");
        due(x.best(0, NONE), ANY_FULL);
        due(x.rest(NONE), ANY_FULL);
    }

    @Says("each in a HOUSE or in the street")
    void placed_1_eachInAnyHouseOrTheStreet() {
        SoldWithIt x = street("70;71;72;73;74;75;76;77", "o-o-o-o-");
        due(x.rest(-2), 6561);
        x.wipe(0);
        due(x.rest(-2), 1);
        due(x.best(3, 3), NONE);
    }

    @Says("each in a HOUSE or in the street")
    void placed_1_inTheLastHouse() {
        SoldWithIt x = street("70;71;72;73;74;75;76;77", "o-o-o-o-");
        x.sale(7, 0);
        for (int p = 1; p < 4; p++) {
            x.worth(0, p, 9);
            x.like(p, 0, 1);
        }
        due(x.best(0, NONE), 34);
        due(x.best(0, 0), NONE);
        due(x.best(0, 3), 7);
        due(x.rest(3), 7);
        due(x.rest(-2), 9);
    }

    @Says("wherever they are told")
    void placed_1_lockedOnesToo() {
        SoldWithIt x = street("75", "l-o-");
        x.sale(0, 1);
        x.worth(1, 0, 3);
        due(x.best(1, NONE), 8);
        due(x.best(1, 0), 0);
        due(x.gain(1), 5);
    }

    @Says("the places of all by which one's GAIN is greatest")
    void placed_1_greatestIfNobodyIsKept() {
        SoldWithIt x = street("70;00", "o-o-o-");
        x.sale(0, 0);
        x.worth(0, 1, -1);
        due(x.best(0, NONE), 0);
        due(x.best(0, 1), NONE);
        x.worth(0, 1, 1);
        due(x.best(0, NONE), 1);
        due(x.best(0, 1), 0);
    }

    @Says("the places of all by which one's GAIN is greatest")
    void placed_1_theSecondRowAndTheLast() {
        SoldWithIt x = street("75", "o-o-");
        x.sale(0, 0);
        x.worth(0, 1, 3);
        due(x.best(0, NONE), 8);
        due(x.best(0, 0), NONE);
        due(x.best(0, 1), 0);
        x = street("75", "o-o-o-");
        x.sale(0, 2);
        x.worth(2, 0, 1);
        x.worth(2, 1, 1);
        due(x.best(2, NONE), 7);
        due(x.best(2, 0), 0);
        due(x.best(2, 1), 0);
    }

    @Says("the places of all by which one's GAIN is greatest")
    void placed_1_worthOfSomebodyWhoIsNotThereDoesNotCount() {
        SoldWithIt x = street("75", "o-o-");
        for (int p = 2; p < 8; p++) {
            x.worth(0, p, 9);
            x.worth(1, p, 9);
        }
        due(x.best(0, NONE), 0);
        due(x.best(1, NONE), 0);
        due(x.gain(0), 0);
    }

    @Says("of like ones the least row")
    void placed_1_leastRowByPerson0First() {
        // 1 goes to 2 from house 1, or from house 0 (which is 0's) if 0 is in house 1.
        SoldWithIt x = street("00;71", "o-o-o-");
        x.sale(1, 2);
        x.worth(2, 1, 3);
        due(x.best(2, NONE), 4);
        due(x.best(2, 0), NONE);
        due(x.best(2, 1), 1);
        due(x.best(2, 2), NONE);
    }

    @Says("(the street is ahead of HOUSE 0)")
    void placed_1_theStreetIsAheadOfHouse0() {
        SoldWithIt x = street("75", "o0");
        due(x.best(0, 0), NONE);
        due(x.rest(0), NONE);
    }

    @Says("none who may walk (KIND 0, 1)")
    void placed_2_whoMayWalk() {
        for (String kind : new String[] {"o", "g"}) {
            SoldWithIt x = oneMayBeKept(kind);
            x.like(0, 1, 1);
            due(x.rest(-2), 1);
            due(x.rest(0), 0);
        }
        SoldWithIt x = oneMayBeKept("l");
        x.like(0, 1, 1);
        due(x.rest(-2), 1);
        due(x.rest(0), NONE);
    }

    @Says("would LIKE one's KEEPER behind all SALES more")
    void placed_2_likeIsNotMore() {
        SoldWithIt x = street("75;73", "o-l-l-");
        x.sale(0, 1);
        x.sale(1, 2);
        x.like(0, 1, 4);
        x.like(0, 2, 4);
        due(x.rest(-2), 2);
        due(x.rest(0), 0);
        x.like(0, 2, 5);
        due(x.rest(-2), 1);
        due(x.rest(0), 1);
    }

    @Says("by standing elsewhere alone")
    void placed_2_elsewhereIsTheStreetToo() {
        SoldWithIt x = street("75", "o0l-");
        x.sale(0, 1);
        x.like(0, 1, -1);
        due(x.rest(-2), 1);
        due(x.rest(0), NONE);
        x.like(0, 1, 1);
        due(x.rest(-2), 1);
        due(x.rest(0), 0);
    }

    @Says("by standing elsewhere alone")
    void placed_2_alone() {
        // 0 is kept by 2 only if in house 1, which goes with 1, and if 1 is in house 0, too; who is
        // in house 0 ends with 3. So 0 would be better off if 1 walked as well, but not alone.
        SoldWithIt x = street("70;10", "o-o-l-l-");
        x.law(2, 0);
        x.sale(0, 2);
        x.sale(0, 3);
        x.like(0, 2, 3);
        x.like(0, 3, -1);
        due(x.rest(-2), 5);
        due(x.rest(0), NONE);
        due(x.rest(1), NONE);
    }

    @Says("would LIKE one's KEEPER behind all SALES more")
    void placed_2_whomNobodyBuysStaysAnywhere() {
        SoldWithIt x = street("75", "o-o-");
        x.like(0, 1, 5);
        x.like(1, 0, 5);
        due(x.rest(-2), 4);
        due(x.rest(0), NONE);
        due(x.rest(1), NONE);
    }

    @Says("those locked in stay where they are told")
    void placed_2_lockedOnesStay() {
        SoldWithIt x = street("75;73", "l1l-l0");
        due(x.rest(-2), 1);
        due(x.rest(0), 1);
        due(x.rest(1), NONE);
        due(x.rest(2), 0);
    }

    @Says("how many rows; the first; NONE")
    void placed_2_NONE_noRow() {
        SoldWithIt x = PromiseTest.chase();
        due(x.rest(-2), 0);
        due(x.rest(NONE), 0);
        due(x.rest(0), ANY_NOT);
    }

    @Says("how many rows; the first")
    void placed_2_nobodyHasOneRow() {
        SoldWithIt x = street("05;13", "");
        due(x.rest(-2), 1);
        due(x.rest(NONE), 1);
        due(new SoldWithIt().rest(-2), 1);
        due(new SoldWithIt().rest(NONE), 1);
    }

    // ---- out

    @Says("who is in a HOUSE that some SALE tells (itself)")
    void out_1_toldItself() {
        SoldWithIt x = street("75;03;79", "o0o1o-");
        x.sale(0, 2);
        due(x.whose(1, 1), 2);
        due(x.out(0), 1);
        due(x.out(1), 0);
    }

    @Says("that some SALE tells (itself)")
    void out_1_toldThoughItDoesNothing() {
        SoldWithIt x = street("75;73", "o0");
        x.sale(0, 7);
        due(x.out(0), 1);
    }

    @Says("from HOUSE a to HOUSE b in as many minutes as their numbers differ")
    void out_1_toAHouseOnEitherSide() {
        SoldWithIt x = street("70;70;70;70;70;70;70;70", "o3o4");
        for (int h = 2; h <= 5; h++) {
            x.sale(h, 0);
        }
        due(x.out(0), 2);
        due(x.out(1), 2);
        x.sale(1, 0);
        due(x.out(0), 3);
        due(x.out(1), 2);
    }

    @Says("the fewest minutes to a HOUSE that no SALE tells, or to the street")
    void out_1_toTheFirstHouseAndToTheLast() {
        SoldWithIt x = street("70;70;70;70;70", "o1o3");
        x.sale(1, 0);
        x.sale(2, 0);
        x.sale(3, 0);
        due(x.out(0), 1);
        due(x.out(1), 1);
        x.sale(4, 0);
        due(x.out(0), 1);
        due(x.out(1), 2);
    }

    @Says("to the street a minute from HOUSE 0")
    void out_1_toTheStreetByHouse0() {
        SoldWithIt x = street("70;70;70;70;70;70;70;70", "o0o3");
        for (int h = 0; h < 8; h++) {
            x.sale(h, 0);
        }
        due(x.out(0), 1);
        due(x.out(1), 4);
    }

    @Says("and from the last one")
    void out_1_toTheStreetByTheLastHouse() {
        SoldWithIt x = street("70;70;70;70;70;70;70;70", "o7o4");
        for (int h = 0; h < 8; h++) {
            x.sale(h, 0);
        }
        due(x.out(0), 1);
        due(x.out(1), 4);
        x = street("70", "o0");
        x.sale(0, 0);
        due(x.out(0), 1);
    }

    @Says("0, if one is there already")
    void out_1_0InTheStreet() {
        SoldWithIt x = street("75", "o-l-o3l3");
        x.sale(0, 0);
        x.sale(3, 0);
        for (int p = 0; p < 4; p++) {
            due(x.out(p), 0);
        }
    }

    @Says("0, if one is there already")
    void out_1_0InAHouseThatNoSaleTells() {
        SoldWithIt x = street("75;73", "o0g0l0");
        due(x.out(0), 0);
        x.sale(1, 0);
        due(x.out(0), 0);
        due(x.out(1), 0);
        due(x.out(2), 0);
    }

    @Says("NONE: one would walk, but is locked in")
    void out_1_NONE_lockedIn() {
        SoldWithIt x = street("75;73", "l0o0g0");
        x.sale(0, 0);
        due(x.out(0), NONE);
        due(x.out(1), 1);
        due(x.out(2), 1);
    }

    // ---- promises 15 and 16: worth, like

    @Says("WORTH to one (0 to 7) of another one (0 to 7)")
    void promise15_1_of0And7ThereOrNot() {
        SoldWithIt x = new SoldWithIt();
        due(x.worth(0, 7, 3), 0);
        due(x.worth(7, 0, -3), 0);
        due(x.worth(0, 7, 0), 3);
        due(x.worth(7, 0, 0), -3);
    }

    @Says("WORTH to one (0 to 7) of another one (0 to 7)")
    void promise15_1_toAnOwnerWhoIsNotThere() {
        SoldWithIt x = street("75;04", "o-o0");
        due(x.change(0, 1), 0);
        due(x.worth(7, 1, -2), 0);
        due(x.change(0, 1), 1);
        due(x.worth(7, 1, 0), -2);
        due(x.change(0, 1), 0);
    }

    @Says("WORTH to one (0 to 7) of another one (0 to 7)")
    void promise15_1_toldAheadOfThePeopleAndTheStreet() {
        SoldWithIt x = new SoldWithIt();
        x.worth(1, 0, 4);
        x.worth(0, 7, -4);
        type(x, 0, "05;13");
        type(x, 1, "o1o-o-o-o-o-o-o1");
        due(x.value(1, 1), 7);
        due(x.value(1, 0), -1);
        x.wipe(1);
        due(x.worth(1, 0, 4), 4);
        due(x.worth(0, 7, -4), -4);
    }

    @Says("what it was, as any number")
    void promise15_1_whatItWasMayLookLikeARefusal() {
        SoldWithIt x = new SoldWithIt();
        x.worth(1, 0, NONE);
        due(x.worth(1, 0, BAD), NONE);
        due(x.worth(1, 0, NOT), BAD);
        due(x.worth(1, 0, FULL), NOT);
        due(x.worth(1, 0, 0), FULL);
    }

    @Says("BAD: -100002")
    void promise15_2_BAD_people() {
        refused(ANY_BAD, x -> x.worth(-1, 0, 1));
        refused(ANY_BAD, x -> x.worth(8, 0, 1));
        refused(ANY_BAD, x -> x.worth(0, -1, 1));
        refused(ANY_BAD, x -> x.worth(0, 8, 1));
    }

    @Says("BAD: -100002")
    void promise15_2_BAD_v() {
        refused(ANY_BAD, x -> x.worth(0, 1, 10));
        refused(ANY_BAD, x -> x.worth(0, 1, -10));
    }

    @Says("also of oneself")
    void promise15_2_BAD_ofOneself() {
        refused(ANY_BAD, x -> x.worth(0, 0, 1));
        refused(ANY_BAD, x -> x.worth(7, 7, 0));
    }

    @Says("LIKING of one (0 to 7) for another one (0 to 7)")
    void promise16_1_of0And7ThereOrNot() {
        SoldWithIt x = new SoldWithIt();
        due(x.like(0, 7, 3), 0);
        due(x.like(7, 0, -3), 0);
        due(x.like(0, 7, 0), 3);
        due(x.like(7, 0, 0), -3);
    }

    @Says("what it was, as any number")
    void promise16_1_whatItWasMayLookLikeARefusal() {
        SoldWithIt x = new SoldWithIt();
        x.like(1, 0, NONE);
        due(x.like(1, 0, BAD), NONE);
        due(x.like(1, 0, NOT), BAD);
        due(x.like(1, 0, FULL), NOT);
        due(x.like(1, 0, 0), FULL);
    }

    @Says("BAD: -100002")
    void promise16_2_BAD_people() {
        refused(ANY_BAD, x -> x.like(-1, 0, 1));
        refused(ANY_BAD, x -> x.like(8, 0, 1));
        refused(ANY_BAD, x -> x.like(0, -1, 1));
        refused(ANY_BAD, x -> x.like(0, 8, 1));
    }

    @Says("BAD: -100002")
    void promise16_2_BAD_v() {
        refused(ANY_BAD, x -> x.like(0, 1, 10));
        refused(ANY_BAD, x -> x.like(0, 1, -10));
    }

    @Says("also for oneself")
    void promise16_2_BAD_forOneself() {
        refused(ANY_BAD, x -> x.like(0, 0, 1));
        refused(ANY_BAD, x -> x.like(7, 7, 0));
    }

    // ---- promise 17: gain

    @Says("GAIN, as any number")
    void promise17_1_theGreatestAndTheLeast() {
        SoldWithIt x = street("79;79;79;79;79;79;79;79", "o-o0o0o0o0o0o0o0");
        for (int h = 0; h < 8; h++) {
            x.sale(h, 0);
        }
        for (int p = 1; p < 8; p++) {
            x.worth(0, p, 9);
        }
        due(x.gain(0), 72 + 63);
        for (int p = 1; p < 8; p++) {
            x.worth(0, p, -9);
        }
        due(x.gain(0), 72 - 63);
        x.sale(0, 1);
        for (int h = 0; h < 3; h++) {
            x.sale(h, 1);
        }
        due(x.gain(0), 45 - 63);
        due(x.gain(1), 27);
    }

    @Says("as any number")
    void promise17_1_mayLookLikeARefusal() {
        SoldWithIt x = street("70", "o-o0");
        x.sale(0, 0);
        for (int worth = FULL; worth <= NONE; worth++) {
            x.worth(0, 1, worth);
            due(x.gain(0), worth);
        }
    }

    @Says("BAD: -100002")
    void promise17_2_BAD() {
        refused(ANY_BAD, x -> x.gain(-1));
        refused(ANY_BAD, x -> x.gain(3));
        refused(ANY_BAD, SoldWithIt::new, x -> x.gain(0));
        due(rich().gain(2), 15);
    }

    // ---- promise 18: best

    @Says("GAIN (who = NONE)")
    void promise18_1_NONE_theGain() {
        SoldWithIt x = street("75;73", "o-o-");
        x.worth(0, 1, 9);
        due(x.best(0, NONE), 0);
        x.sale(0, 0);
        due(x.best(0, NONE), 14);
        x.worth(0, 1, -9);
        due(x.best(0, NONE), 5);
    }

    @Says("the HOUSE of somebody (NONE: the street)")
    void promise18_1_NONE_theStreet() {
        SoldWithIt x = street("75;73", "o-o-");
        x.sale(1, 0);
        x.worth(0, 1, 9);
        due(x.best(0, 0), NONE);
        due(x.best(0, 1), 1);
    }

    @Says("BAD: -100002")
    void promise18_2_BAD_person() {
        refused(ANY_BAD, x -> x.best(-1, NONE));
        refused(ANY_BAD, x -> x.best(3, NONE));
        refused(ANY_BAD, SoldWithIt::new, x -> x.best(0, NONE));
        refused(ANY_BAD, BoundaryPlacesTest::five, x -> x.best(5, NONE));
    }

    @Says("BAD: -100002")
    void promise18_2_BAD_who() {
        refused(ANY_BAD, x -> x.best(0, -2));
        refused(ANY_BAD, x -> x.best(0, 3));
        refused(ANY_BAD, BoundaryPlacesTest::five, x -> x.best(0, 5));
    }

    @Says("FULL: -100004")
    void promise18_2_FULL() {
        refused(ANY_FULL, BoundaryPlacesTest::five, x -> x.best(0, NONE));
        refused(ANY_FULL, BoundaryPlacesTest::five, x -> x.best(4, 4));
        due(four().best(3, 3), NONE);
    }

    // ---- promise 19: rest

    @Says("how many rows (who = -2)")
    void promise19_1_howManyRows() {
        SoldWithIt x = street("75;73", "o-l1");
        due(x.rest(-2), 3);
        due(street("", "o-o-o-o-").rest(-2), 1);
    }

    @Says("whether there is one (NONE: 1, 0)")
    void promise19_1_NONE_whetherThereIsOne() {
        due(street("75;73", "o-l1").rest(NONE), 1);
        due(PromiseTest.chase().rest(NONE), 0);
    }

    @Says("the HOUSE of somebody by the first (NONE: the street)")
    void promise19_1_NONE_theStreet() {
        SoldWithIt x = street("75;73", "o-l1l-");
        due(x.rest(0), NONE);
        due(x.rest(1), 1);
        due(x.rest(2), NONE);
    }

    @Says("BAD: -100002")
    void promise19_2_BAD() {
        refused(ANY_BAD, x -> x.rest(-3));
        refused(ANY_BAD, x -> x.rest(3));
        refused(ANY_BAD, SoldWithIt::new, x -> x.rest(0));
        refused(ANY_BAD, PromiseTest::chase, x -> x.rest(4));
    }

    @Says("FULL: -100004")
    void promise19_2_FULL() {
        for (int who = -2; who <= 4; who++) {
            int w = who;
            refused(ANY_FULL, BoundaryPlacesTest::five, x -> x.rest(w));
        }
        due(four().rest(3), 0);
    }

    @Says("NOT: -100003: there is none")
    void promise19_2_NOT() {
        for (int who = 0; who < 4; who++) {
            int w = who;
            refused(ANY_NOT, PromiseTest::chase, x -> x.rest(w));
        }
    }

    // ---- promise 20: out

    @Says("OUT")
    void promise20_1_ofOneAndOfAll() {
        SoldWithIt x = ring();
        x.sale(1, 0);
        due(x.out(0), 1);
        for (int p = 1; p < 8; p++) {
            due(x.out(p), 0);
        }
        for (int h = 0; h < 8; h++) {
            x.sale(h, 0);
        }
        int[] minutes = {2, 3, 4, 4, 3, 2, 1, 1};
        for (int p = 0; p < 8; p++) {
            due(x.out(p), minutes[p]);
        }
    }

    @Says("BAD")
    void promise20_2_BAD() {
        refused(BAD, x -> x.out(-1));
        refused(BAD, x -> x.out(3));
        refused(BAD, SoldWithIt::new, x -> x.out(0));
    }
}
