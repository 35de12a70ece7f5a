/** The boundary cases of changes, of owning as one should, and of dinners: promises 21 to 26. */
public final class BoundaryDinnersTest extends Boundaries {
    public static void main(String[] args) {
        new BoundaryDinnersTest().runAll();
    }

    private static SoldWithIt fourHouses() {
        return street("05;13;27;34", "o-o-o-o-o-o-o-o-");
    }

    private static SoldWithIt fiveHousesAndASheet(int items) {
        SoldWithIt x = street("05;13;27;34;41", "o-o-o-o-");
        x.sheet(0, 0, items);
        return x;
    }

    private void shouldBy(SoldWithIt x, int want, int... owners) {
        fill(x, 0, 2, owners);
        due(x.should(0), want);
    }

    /** 1 likes the host 0 by so much. */
    private static SoldWithIt dinner(int liking) {
        SoldWithIt x = street("", "o-o-o-o-");
        x.like(1, 0, liking);
        return x;
    }

    // ---- changes

    @Says("two unlike OWNERS")
    void change_1_likeOwners() {
        SoldWithIt x = street("05;03;13", "o-o-");
        due(x.change(0, 1), 0);
        due(x.change(1, 0), 0);
        x = street("05;05", "o0o1");
        x.worth(0, 1, 9);
        due(x.change(0, 1), 0);
    }

    @Says("to each the other one's has more VALUE")
    void change_1_likeValueIsNotMore() {
        SoldWithIt x = street("05;15", "o-o-o0o1");
        due(x.change(0, 1), 0);
        x.worth(0, 3, 1);
        due(x.change(0, 1), 0);
        due(x.change(1, 0), 0);
        x.worth(1, 2, 1);
        due(x.change(0, 1), 1);
        due(x.change(1, 0), 1);
        x.worth(0, 3, 0);
        due(x.change(0, 1), 0);
        due(x.change(1, 0), 0);
    }

    @Says("two unlike OWNERS would change HOUSES a and b, if to each the other one's has more VALUE")
    void change_1_ownersWhoAreNotThere() {
        SoldWithIt x = street("65;73", "o0o1");
        due(x.change(0, 1), 0);
        x.worth(6, 1, 2);
        due(x.change(0, 1), 0);
        x.worth(6, 1, 3);
        due(x.change(0, 1), 1);
        due(x.change(1, 0), 1);
        x.worth(7, 0, -2);
        due(x.change(0, 1), 0);
        due(x.change(1, 0), 0);
        x.worth(7, 0, -1);
        due(x.change(0, 1), 1);
        x.worth(7, 1, 1);
        due(x.change(0, 1), 0);
    }

    @Says("if to each the other one's has more VALUE")
    void change_1_oneOwnerWhoIsNotThere() {
        SoldWithIt x = street("05;73", "o0o1");
        x.worth(0, 1, 3);
        due(x.change(0, 1), 1);
        due(x.change(1, 0), 1);
        x.worth(7, 1, 2);
        due(x.change(0, 1), 0);
        x.worth(7, 0, 1);
        due(x.change(0, 1), 1);
        x.worth(0, 1, 2);
        due(x.change(0, 1), 0);
    }

    @Says("two unlike OWNERS")
    void change_1_oneOwnerOfBothWhoIsNotThere() {
        SoldWithIt x = street("75;73", "o0o1");
        x.worth(7, 1, 9);
        due(x.change(0, 1), 0);
        due(x.change(1, 0), 0);
    }

    @Says("two unlike OWNERS would change")
    void change_1_anOwnerWhoComesIsOneOfThemAsBefore() {
        SoldWithIt x = street("05;13", "o0");
        x.worth(1, 0, -3);
        due(x.change(0, 1), 0);
        x.worth(0, 1, 9);
        due(x.change(0, 1), 0);
        x.worth(1, 0, -1);
        due(x.change(0, 1), 0);
        type(x, 1, "o1");
        due(x.change(0, 1), 1);
        x.worth(1, 0, -2);
        due(x.change(0, 1), 0);
    }

    @Says("its PRICE, and WORTH of all who are in it, but oneself")
    void change_1_valueButOneself() {
        SoldWithIt x = street("05;13", "o0o1");
        x.worth(1, 0, 2);
        due(x.value(0, 0), 5);
        due(x.value(0, 1), 7);
        due(x.value(1, 1), 3);
    }

    @Says("WORTH of all who are in it")
    void change_1_valueOfAnEmptyAndOfAFullHouse() {
        SoldWithIt x = street("09;00", "o0o0o0o0o0o0o0o0");
        for (int p = 1; p < 8; p++) {
            x.worth(0, p, 9);
            x.worth(p, 0, -9);
        }
        due(x.value(0, 0), 72);
        due(x.value(0, 7), 0);
        due(x.value(1, 0), 0);
    }

    @Says("How many pairs of HOUSES with unlike OWNERS would be changed")
    void change_2_fromNoneToAll() {
        SoldWithIt x = street("05;15;25;35;45;55;65;75", "o0o1o2o3o4o5o6o7");
        due(x.changes(), 0);
        for (int a = 0; a < 8; a++) {
            for (int b = 0; b < 8; b++) {
                x.worth(a, b, 1);
            }
        }
        due(x.changes(), 28);
    }

    @Says("How many pairs of HOUSES with unlike OWNERS would be changed")
    void change_2_pairsOfOwnersWhoAreNotThere() {
        SoldWithIt x = street("45;55;65;75", "o0o1o2o3");
        for (int a = 4; a < 8; a++) {
            for (int p = 0; p < 4; p++) {
                x.worth(a, p, 1);
            }
        }
        due(x.changes(), 0);
        for (int a = 4; a < 8; a++) {
            x.worth(a, a - 4, 0);
        }
        due(x.changes(), 6);
        x.worth(7, 3, 1);
        due(x.changes(), 3);
        long digest = x.digest();
        x.worth(7, 3, 0);
        due(x.digest() - digest, 3);
    }

    @Says("pairs of HOUSES with unlike OWNERS")
    void change_2_pairsOfOneOwnerDoNotCount() {
        SoldWithIt x = street("00;00;10;10", "o0o2");
        x.worth(0, 1, 1);
        x.worth(1, 0, 1);
        due(x.changes(), 1);
        due(x.change(0, 2), 1);
    }

    // ---- owning as one should

    @Says("by which all OWN as they should")
    void should_1_0IfAllDoAlready() {
        shouldBy(fourHouses(), 0, 0, 1, 2, 3);
        shouldBy(street("", "o-"), 0);
        shouldBy(new SoldWithIt(), 0);
    }

    @Says("the fewest SALES")
    void should_1_fewestByTheChain() {
        SoldWithIt x = street("00;01;02;03", "o0o-o-");
        shouldBy(x, 1, 1, 1, 1, 1);
        shouldBy(x, 2, 1, 1, 1, 2);
        x.law(1, 0);
        shouldBy(x, 4, 1, 1, 1, 1);
    }

    @Says("who should OWN each HOUSE (a SHEET, item by item)")
    void should_1_theFirstHouseAndTheLast() {
        SoldWithIt x = street("15;05;05;15", "o-o-");
        shouldBy(x, 0, 1, 0, 0, 1);
        shouldBy(x, 1, 0, 0, 0, 1);
        shouldBy(x, 1, 1, 0, 0, 0);
        x = street("15;15", "o-o-");
        x.wipe(0);
        type(x, 0, "15");
        shouldBy(x, 0, 1);
    }

    @Says("the fewest SALES (each as above")
    void should_1_othersHousesAreNotSoldWithOne() {
        SoldWithIt x = street("15;73", "o1o-o-");
        shouldBy(x, 1, 1, 2);
    }

    @Says("the fewest SALES (each as above")
    void should_1_whatOneOwnsNoMoreIsNotSoldWithOne() {
        // House 1 has to go first: else 0 takes it to 2, and 2, who is in it, house 0 to 1.
        SoldWithIt x = street("70;00", "o0o-o1");
        shouldBy(x, 2, 2, 1);
    }

    @Says("each as above, by LAW")
    void should_1_byLaw() {
        SoldWithIt x = street("05;13", "o0o1");
        shouldBy(x, NONE, 1, 0);
        x.law(0, 0);
        shouldBy(x, 2, 1, 0);
        x.law(0, 1);
        x.law(1, 0);
        shouldBy(x, 2, 1, 0);
    }

    @Says("none told being done")
    void should_1_noneToldIsDone() {
        SoldWithIt x = street("05", "o-o-");
        x.sale(0, 1);
        shouldBy(x, 1, 1);
        shouldBy(x, 0, 0);
    }

    @Says("nobody was sold yet")
    void should_1_nobodyWasSoldYet() {
        SoldWithIt x = street("75;03", "o0o-");
        x.sale(0, 1);
        due(x.sold(0, 1), 1);
        shouldBy(x, 1, 1, 1);
    }

    @Says("and that is forgotten behind each")
    void should_1_soldIsForgottenBehindEach() {
        // If one sold was not sold again, 0 to 1, 1 to 0, 0 to 1 would do it.
        SoldWithIt x = street("05;13", "o0o1");
        shouldBy(x, NONE, 1, 0);
        x.law(2, 0);
        shouldBy(x, NONE, 1, 0);
    }

    @Says("NONE")
    void should_1_NONE_noSalesDo() {
        SoldWithIt x = street("05;03", "o0o-");
        shouldBy(x, 2, 1, 0);
        x = street("05;13", "o0o1");
        shouldBy(x, NONE, 1, 0);
        shouldBy(x, 1, 1, 1);
    }

    @Says("4 HOUSES at most (else FULL)")
    void should_1_FULL_from5HousesOn() {
        SoldWithIt x = fourHouses();
        shouldBy(x, 4, 7, 7, 7, 7);
        type(x, 0, ";40");
        shouldBy(x, FULL, 0, 1, 2, 3, 4);
        type(x, 0, ";50;60;70");
        shouldBy(x, FULL, 0, 1, 2, 3, 4, 5, 6, 7);
    }

    @Says("fewer items than HOUSES")
    void should_1_NOT_fewerItems() {
        SoldWithIt x = fourHouses();
        shouldBy(x, NOT, 0, 1, 2);
        shouldBy(x, NOT);
        shouldBy(x, 0, 0, 1, 2, 3);
    }

    @Says("a SHEET, item by item")
    void should_1_moreItemsDoNotCount() {
        SoldWithIt x = street("05;13", "o-o-");
        shouldBy(x, 0, 0, 1, 99, -1);
    }

    @Says("or one of these is none of the PEOPLE")
    void should_1_NOT_noneOfThePeople() {
        SoldWithIt x = street("05;73", "o-o-");
        shouldBy(x, NOT, -1, 0);
        shouldBy(x, NOT, 2, 0);
        shouldBy(x, NOT, 0, 2);
        shouldBy(x, NOT, 0, 7);
        shouldBy(x, NOT, 0, LEAST);
        shouldBy(x, NOT, MOST, 0);
        shouldBy(x, 1, 0, 1);
        x.wipe(1);
        shouldBy(x, NOT, 0, 0);
    }

    // ---- dinners

    @Says("is 0 or more together")
    void dinner_1_0Comes() {
        due(dinner(0).come(0, 2), 2);
        due(dinner(-1).come(0, 2), 0);
        SoldWithIt x = dinner(-9);
        x.like(1, 2, 9);
        due(x.come(0, 6), 6);
        x.like(1, 2, 8);
        due(x.come(0, 6), 4);
    }

    @Says("for all invited, but oneself")
    void dinner_1_butOneself() {
        due(dinner(0).come(0, 2), 2);
        due(dinner(1).come(0, 2), 2);
    }

    @Says("(invited ones count, whether they come or not)")
    void dinner_1_invitedOnesCountThoughNotComing() {
        SoldWithIt x = dinner(1);
        x.like(2, 0, -1);
        x.like(1, 2, -1);
        due(x.come(0, 6), 2);
        x.like(1, 2, -2);
        due(x.come(0, 6), 0);
    }

    @Says("the fewest invited")
    void dinner_2_fewestThoughOfMoreBits() {
        SoldWithIt x = dinner(-2);
        x.like(1, 2, 1);
        type(x, 1, "o-");
        x.like(1, 3, 1);
        due(x.invite(0, 2), 14);
        x.like(1, 4, 2);
        due(x.invite(0, 2), 18);
    }

    @Says("the host not among them")
    void dinner_2_theHostIsNotInvited() {
        SoldWithIt x = dinner(-1);
        due(x.invite(0, 2), NONE);
        x.like(1, 0, 0);
        due(x.invite(0, 2), 2);
        x.like(0, 1, 9);
        x.like(2, 1, -1);
        due(x.invite(1, 4), NONE);
        x.like(2, 0, 1);
        due(x.invite(1, 4), 5);
        // If the host was invited, 1 would like the host twice, and come.
        x = dinner(1);
        x.like(1, 2, -2);
        due(x.invite(0, 6), NONE);
        due(x.invite(0, 2), 2);
    }

    @Says("by which all of a told set come")
    void dinner_2_ofNobodyAndOfAll() {
        SoldWithIt x = street("", "o-o-o-o-o-o-o-o-");
        due(x.invite(0, 0), 0);
        due(x.invite(0, 254), 254);
        due(x.invite(7, 127), 127);
        x.like(3, 0, -1);
        due(x.invite(0, 0), 0);
        due(x.invite(0, 254), NONE);
    }

    @Says("of like ones the least bits")
    void dinner_2_leastBits() {
        SoldWithIt x = dinner(-1);
        x.like(1, 3, 1);
        due(x.invite(0, 2), 10);
        x.like(1, 2, 1);
        due(x.invite(0, 2), 6);
    }

    @Says("NONE")
    void dinner_2_NONE_noSetDoes() {
        SoldWithIt x = dinner(-9);
        x.like(1, 2, 8);
        due(x.invite(0, 2), NONE);
        x.like(1, 3, 1);
        due(x.invite(0, 2), 14);
    }

    // ---- promise 21: value

    @Says("VALUE, as any number")
    void promise21_1_mayLookLikeARefusal() {
        SoldWithIt x = street("70", "o-o0");
        for (int worth = FULL; worth <= NONE; worth++) {
            x.worth(0, 1, worth);
            due(x.value(0, 0), worth);
        }
    }

    @Says("BAD: -100002")
    void promise21_2_BAD_house() {
        refused(ANY_BAD, x -> x.value(-1, 0));
        refused(ANY_BAD, x -> x.value(3, 0));
        due(rich().value(2, 0), 7);
    }

    @Says("BAD: -100002")
    void promise21_2_BAD_person() {
        refused(ANY_BAD, x -> x.value(0, -1));
        refused(ANY_BAD, x -> x.value(0, 3));
        due(rich().value(0, 2), 5);
    }

    // ---- promises 22 and 23: change, changes

    @Says("CHANGE of two HOUSES: 1, 0")
    void promise22_1_ofTheFirstAndTheLast() {
        SoldWithIt x = street("05;20;20;20;20;20;20;15", "o0o7");
        due(x.change(0, 7), 0);
        x.worth(0, 1, 1);
        x.worth(1, 0, 1);
        due(x.change(0, 7), 1);
        due(x.change(7, 0), 1);
    }

    @Says("BAD")
    void promise22_2_BAD_houses() {
        refused(BAD, x -> x.change(-1, 0));
        refused(BAD, x -> x.change(3, 0));
        refused(BAD, x -> x.change(0, -1));
        refused(BAD, x -> x.change(0, 3));
    }

    @Says("also one with itself")
    void promise22_2_BAD_oneWithItself() {
        for (int house = 0; house <= 3; house++) {
            int h = house;
            refused(BAD, x -> x.change(h, h));
        }
    }

    @Says("How many pairs would be changed")
    void promise23_1_ofNoHouseAndOfOne() {
        due(new SoldWithIt().changes(), 0);
        due(street("05", "o0").changes(), 0);
    }

    // ---- promise 24: should

    @Says("SHOULD")
    void promise24_1_bySheetsOfAllForms() {
        for (int form = 0; form <= 2; form++) {
            SoldWithIt x = street("05;13", "o-o-");
            fill(x, form, form, 1, 0);
            due(x.should(form), 2);
        }
    }

    @Says("BAD")
    void promise24_2_BAD() {
        refused(BAD, x -> x.should(-1));
        refused(BAD, x -> x.should(4));
    }

    @Says("NULL")
    void promise24_2_NULL() {
        refused(NULL, x -> x.should(3));
        refused(NULL, SoldWithIt::new, x -> x.should(0));
    }

    @Says("FULL")
    void promise24_2_FULL() {
        refused(FULL, () -> fiveHousesAndASheet(5), x -> x.should(0));
    }

    @Says("NOT")
    void promise24_2_NOT() {
        refused(NOT, x -> x.should(1));
        refused(NOT, x -> x.should(2));
    }

    // ---- promise 25: come

    @Says("Who of those invited (0 to 255;")
    void promise25_1_nobodyInvitedAndAll() {
        SoldWithIt x = street("", "o-o-o-o-o-o-o-o-");
        due(x.come(0, 0), 0);
        due(x.come(0, 254), 254);
        due(x.come(7, 127), 127);
    }

    @Says("those who are not there do not count")
    void promise25_1_notThere() {
        SoldWithIt x = dinner(0);
        x.like(1, 4, -9);
        x.like(1, 7, -9);
        due(x.come(0, 254), 14);
        x.like(1, 0, -1);
        x.like(1, 4, 9);
        x.like(1, 7, 9);
        due(x.come(0, 254), 12);
        due(x.come(0, 240), 0);
    }

    @Says("BAD")
    void promise25_2_BAD_host() {
        refused(BAD, x -> x.come(-1, 0));
        refused(BAD, x -> x.come(3, 0));
        refused(BAD, SoldWithIt::new, x -> x.come(0, 0));
    }

    @Says("BAD")
    void promise25_2_BAD_invited() {
        refused(BAD, x -> x.come(0, -1));
        refused(BAD, x -> x.come(0, -2));
        refused(BAD, x -> x.come(0, 256));
        refused(BAD, x -> x.come(0, LEAST));
    }

    @Says("also the host among them")
    void promise25_2_BAD_theHostAmongThem() {
        refused(BAD, x -> x.come(0, 1));
        refused(BAD, x -> x.come(2, 255));
        due(rich().come(2, 251), 1);
    }

    // ---- promise 26: invite

    @Says("INVITE, as bits; NONE")
    void promise26_1_NONE() {
        SoldWithIt x = dinner(-1);
        due(x.invite(0, 2), NONE);
        due(x.invite(0, 14), NONE);
        due(x.invite(0, 12), 12);
    }

    @Says("BAD")
    void promise26_2_BAD_host() {
        refused(BAD, x -> x.invite(-1, 0));
        refused(BAD, x -> x.invite(3, 0));
        refused(BAD, SoldWithIt::new, x -> x.invite(0, 0));
    }

    @Says("(bits of PEOPLE that there are)")
    void promise26_2_BAD_bitsOfNobody() {
        refused(BAD, x -> x.invite(0, 8));
        refused(BAD, x -> x.invite(0, 128));
        refused(BAD, x -> x.invite(0, 256));
        refused(BAD, x -> x.invite(0, -2));
        refused(BAD, x -> x.invite(0, LEAST));
    }

    @Says("also the host among them")
    void promise26_2_BAD_theHostAmongThem() {
        refused(BAD, x -> x.invite(0, 1));
        refused(BAD, x -> x.invite(2, 7));
    }
}
