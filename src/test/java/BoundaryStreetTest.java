/** The boundary cases of the texts: the street, the people, their faults, promises 1 to 6. */
public final class BoundaryStreetTest extends Boundaries {
    private static final String EIGHT_HOUSES = "00;11;22;33;44;55;66;77";
    private static final String EIGHT_PEOPLE = "o0g1l2o3g4l5o6g7";

    public static void main(String[] args) {
        new BoundaryStreetTest().runAll();
    }

    private void faultOf(int text, String bytes, int want) {
        SoldWithIt x = new SoldWithIt();
        type(x, text, bytes);
        due(x.fault(text), want);
        due(x.count(text) > 0 ? 1 : 0, want == NONE && !bytes.isEmpty() ? 1 : 0);
    }

    private static SoldWithIt fullTexts() {
        return street("00;11;22;33;44;55;66;77;88;99;", EIGHT_PEOPLE + EIGHT_PEOPLE.substring(0, 8));
    }

    // ---- how long an object is used

    @Says("used for at most 512 calls")
    void object_1_the512thCall() {
        SoldWithIt x = street("05;13;27", "o0g1l2");
        int calls = 14;
        while (calls < 510) {
            due(x.type(1, 'o'), 7);
            due(x.wipe(1), 7);
            type(x, 1, "o0g1l2");
            calls += 8;
        }
        due(x.count(1), 3);
        due(x.digest(), street("05;13;27", "o0g1l2").digest());
    }

    // ---- the street

    @Says("a text of up to 30 bytes")
    void street_1_30BytesAndNoMore() {
        SoldWithIt x = new SoldWithIt();
        for (int n = 1; n <= 30; n++) {
            due(x.type(0, ';'), n);
        }
        due(x.type(0, ';'), FULL);
        due(x.count(2), 30);
    }

    @Says("with ; between them")
    void street_1_oneHouseHasNoneBetween() {
        SoldWithIt x = street("05", "");
        due(x.fault(0), NONE);
        due(x.count(0), 1);
        type(x, 0, ";16");
        due(x.fault(0), NONE);
        due(x.count(0), 2);
    }

    @Says("8 at most")
    void street_1_8HousesAtMost() {
        SoldWithIt x = street(EIGHT_HOUSES, "");
        due(x.count(0), 8);
        type(x, 0, ";00");
        due(x.count(0), 0);
    }

    @Says("8 at most (0 on)")
    void street_1_numberedFrom0To7() {
        SoldWithIt x = street("09;11;22;33;44;55;66;78", "");
        due(x.house(0, 1), 9);
        due(x.house(7, 1), 8);
        due(x.house(8, 1), BAD);
    }

    @Says("its OWNER (0 to 7, there or not)")
    void street_1_ownerOf0And7() {
        faultOf(0, "00", NONE);
        faultOf(0, "70", NONE);
        faultOf(0, "80", 0);
        faultOf(0, "/0", 0);
    }

    @Says("its OWNER (0 to 7, there or not)")
    void street_1_ownerNotThere() {
        SoldWithIt x = street("74", "o-");
        due(x.house(0, 0), 7);
        due(x.whose(0, 0), 7);
        x.sale(0, 0);
        due(x.whose(0, 1), 0);
    }

    @Says("PRICE (0 to 9)")
    void street_1_priceOf0And9() {
        SoldWithIt x = street("00;09", "");
        due(x.house(0, 1), 0);
        due(x.house(1, 1), 9);
        faultOf(0, "0/", 1);
        faultOf(0, "0:", 1);
    }

    // ---- the people

    @Says("a text of up to 24 bytes")
    void people_1_24BytesAndNoMore() {
        SoldWithIt x = new SoldWithIt();
        for (int n = 1; n <= 24; n++) {
            due(x.type(1, '-'), n);
        }
        due(x.type(1, '-'), FULL);
        due(x.count(3), 24);
    }

    @Says("for each (8 at most; 0 on)")
    void people_1_8PeopleAtMost() {
        SoldWithIt x = street("", EIGHT_PEOPLE);
        due(x.count(1), 8);
        type(x, 1, "o0");
        due(x.count(1), 0);
    }

    @Says("for each (8 at most; 0 on)")
    void people_1_numberedFrom0To7() {
        SoldWithIt x = street("", "l-o-o-o-o-o-o-g-");
        due(x.person(0, 0), 2);
        due(x.person(7, 0), 1);
        due(x.person(8, 0), BAD);
    }

    @Says("the KIND (o wants out, g a guest, l locked in: 0 to 2)")
    void people_1_kindsAreThreeSmallLetters() {
        SoldWithIt x = street("", "o-g-l-");
        due(x.person(0, 0), 0);
        due(x.person(1, 0), 1);
        due(x.person(2, 0), 2);
        for (char c : "OGLfhkmnp".toCharArray()) {
            faultOf(1, c + "-", 0);
        }
    }

    @Says("the figure of the HOUSE (0 to 7) where one is")
    void people_1_in0And7() {
        SoldWithIt x = street(EIGHT_HOUSES, "o0o7");
        due(x.person(0, 1), 0);
        due(x.person(1, 1), 7);
        due(x.house(7, 2), 2);
        faultOf(1, "o8", 1);
        faultOf(1, "o/", 1);
    }

    @Says("or - (in the street;")
    void people_1_inTheStreet() {
        SoldWithIt x = street("05", "o-o0");
        due(x.person(0, 1), NONE);
        due(x.house(0, 2), 2);
    }

    @Says("so is who is in a HOUSE that there is not")
    void people_1_inNoHouseIsInTheStreet() {
        SoldWithIt x = street("05;13", "o2o1");
        due(x.fault(1), NONE);
        due(x.person(0, 1), NONE);
        due(x.person(1, 1), 1);
        x.sale(2, 1);
        due(x.keeper(0, 1), 0);
        due(x.bed(), 0);
        type(x, 0, ";29");
        due(x.person(0, 1), 2);
        due(x.keeper(0, 1), 1);
    }

    // ---- the fault of a text

    @Says("the place of the first byte with which it cannot go on")
    void people_2_firstByteThatCannotGoOnInTheStreet() {
        faultOf(0, "x", 0);
        faultOf(0, ";", 0);
        faultOf(0, "0x", 1);
        faultOf(0, "0;", 1);
        faultOf(0, "00,", 2);
        faultOf(0, "000", 2);
        faultOf(0, "00;x", 3);
        faultOf(0, "00;8x,", 3);
        faultOf(0, "00;0-;-", 4);
        faultOf(0, "00;00;00;00;00;00;00;0x", 22);
    }

    @Says("the place of the first byte with which it cannot go on")
    void people_2_firstByteThatCannotGoOnInThePeople() {
        faultOf(1, "x", 0);
        faultOf(1, "-", 0);
        faultOf(1, "ox", 1);
        faultOf(1, "oo", 1);
        faultOf(1, "o--", 2);
        faultOf(1, "o-;", 2);
        faultOf(1, "o-g8l9", 3);
        faultOf(1, "o-o-o-o-o-o-o-ox", 15);
    }

    @Says("the first byte with which it cannot go on")
    void people_2_bytesAbove127CannotGoOn() {
        for (int b = 128; b <= 255; b++) {
            SoldWithIt x = new SoldWithIt();
            x.type(0, b);
            x.type(1, b);
            due(x.fault(0), 0);
            due(x.fault(1), 0);
        }
    }

    @Says("(an empty one is well;")
    void people_2_emptyTextsAreWell() {
        faultOf(0, "", NONE);
        faultOf(1, "", NONE);
    }

    @Says("of one that is not ended, its end")
    void people_2_notEnded() {
        faultOf(0, "0", 1);
        faultOf(0, "00;", 3);
        faultOf(0, "00;1", 4);
        faultOf(0, EIGHT_HOUSES.substring(0, 22), 22);
        faultOf(1, "o", 1);
        faultOf(1, "o0g", 3);
        faultOf(1, EIGHT_PEOPLE.substring(0, 15), 15);
    }

    @Says("of the first byte of a ninth HOUSE")
    void people_2_ninthHouse() {
        faultOf(0, EIGHT_HOUSES, NONE);
        faultOf(0, EIGHT_HOUSES + ";", 24);
        faultOf(0, EIGHT_HOUSES + ";0", 24);
        faultOf(0, EIGHT_HOUSES + ";00", 24);
        faultOf(0, EIGHT_HOUSES + ";00;11", 24);
        faultOf(0, EIGHT_HOUSES + "00", 23);
    }

    @Says("of the ninth of the PEOPLE")
    void people_2_ninthPerson() {
        faultOf(1, EIGHT_PEOPLE, NONE);
        faultOf(1, EIGHT_PEOPLE + "o", 16);
        faultOf(1, EIGHT_PEOPLE + "o0", 16);
        faultOf(1, EIGHT_PEOPLE + EIGHT_PEOPLE.substring(0, 8), 16);
    }

    @Says("With a FAULT it is as if it was empty")
    void people_3_streetWithAFault() {
        SoldWithIt x = street("05;13;", "o0g1l0");
        x.sale(0, 1);
        due(x.count(0), 0);
        due(x.house(0, 0), BAD);
        due(x.person(0, 1), NONE);
        due(x.person(0, 2), 0);
        due(x.keeper(0, 1), 0);
        due(x.length(0), 0);
        due(x.gain(0), 0);
        due(x.out(0), 0);
        due(x.changes(), 0);
        due(x.rest(-2), 1);
        due(x.were(0), 256);
        due(x.best(0, 0), NONE);
        type(x, 0, "20");
        due(x.count(0), 3);
        due(x.keeper(0, 1), 1);
    }

    @Says("With a FAULT it is as if it was empty")
    void people_3_peopleWithAFault() {
        SoldWithIt x = street("05;13", "o0g1l");
        x.sale(0, 1);
        due(x.count(1), 0);
        due(x.count(7), 0);
        due(x.person(0, 0), BAD);
        due(x.house(0, 2), 0);
        due(x.whose(0, 1), 0);
        due(x.length(0), 0);
        due(x.gain(0), ANY_BAD);
        due(x.come(0, 0), BAD);
        due(x.were(NONE), 1);
        due(x.bed(), 0);
        type(x, 1, "0");
        due(x.count(1), 3);
        due(x.whose(0, 1), 1);
    }

    // ---- promise 1

    @Says("Empty texts")
    void promise01_1_emptyTexts() {
        SoldWithIt x = new SoldWithIt();
        due(x.count(2), 0);
        due(x.count(3), 0);
        due(x.wipe(0), 0);
        due(x.wipe(1), 0);
        due(x.fault(0), NONE);
        due(x.fault(1), NONE);
    }

    @Says("no SALES")
    void promise01_1_noSales() {
        SoldWithIt x = new SoldWithIt();
        due(x.count(4), 0);
        due(x.undo(), NOT);
        due(x.length(0), BAD);
    }

    @Says("all SHEETS are LOST")
    void promise01_1_allSheetsAreLost() {
        SoldWithIt x = new SoldWithIt();
        for (int s = 0; s <= 3; s++) {
            due(x.lose(s), NULL);
        }
    }

    // ---- promise 2: type

    @Says("A byte (0 to 255) comes behind a text: how many")
    void promise02_1_bytes0And255() {
        SoldWithIt x = new SoldWithIt();
        for (int text = 0; text <= 1; text++) {
            due(x.type(text, 0), 1);
            due(x.type(text, 255), 2);
        }
    }

    @Says("BAD")
    void promise02_2_BAD_text() {
        refused(BAD, x -> x.type(-1, 48));
        refused(BAD, x -> x.type(2, 48));
        refused(BAD, x -> x.type(LEAST, 48));
        refused(BAD, x -> x.type(MOST, 48));
    }

    @Says("BAD")
    void promise02_2_BAD_byte() {
        for (int text = 0; text <= 1; text++) {
            int t = text;
            refused(BAD, x -> x.type(t, -1));
            refused(BAD, x -> x.type(t, 256));
            refused(BAD, x -> x.type(t, LEAST));
            refused(BAD, x -> x.type(t, MOST));
        }
    }

    @Says("FULL")
    void promise02_2_FULL_text0() {
        refused(FULL, BoundaryStreetTest::fullTexts, x -> x.type(0, 48));
    }

    @Says("FULL")
    void promise02_2_FULL_text1() {
        refused(FULL, BoundaryStreetTest::fullTexts, x -> x.type(1, 48));
    }

    // ---- promise 3: wipe

    @Says("how many bytes it had")
    void promise03_1_ofNoneAndOfAll() {
        SoldWithIt x = fullTexts();
        due(x.wipe(0), 30);
        due(x.wipe(0), 0);
        due(x.count(3), 24);
        due(x.wipe(1), 24);
        due(x.wipe(1), 0);
    }

    @Says("A text is empty")
    void promise03_1_aWipedTextTakesAllAgain() {
        SoldWithIt x = fullTexts();
        x.wipe(0);
        x.wipe(1);
        due(x.count(2), 0);
        due(x.count(3), 0);
        type(x, 0, EIGHT_HOUSES);
        type(x, 1, EIGHT_PEOPLE);
        alike(x, street(EIGHT_HOUSES, EIGHT_PEOPLE));
    }

    @Says("BAD")
    void promise03_2_BAD() {
        refused(BAD, x -> x.wipe(-1));
        refused(BAD, x -> x.wipe(2));
    }

    // ---- promise 4: fault

    @Says("The FAULT of a text; NONE")
    void promise04_1_NONE_ofAWellOne() {
        SoldWithIt x = street("05", "o0");
        due(x.fault(0), NONE);
        due(x.fault(1), NONE);
        type(x, 0, "x");
        due(x.fault(0), 2);
        due(x.fault(1), NONE);
        type(x, 1, "o");
        due(x.fault(1), 3);
        x.wipe(0);
        due(x.fault(0), NONE);
    }

    @Says("BAD")
    void promise04_2_BAD() {
        refused(BAD, x -> x.fault(-1));
        refused(BAD, x -> x.fault(2));
    }

    // ---- promise 5: house

    @Says("who is in it, as bits (2)")
    void promise05_1_nobodyAndAllInIt() {
        SoldWithIt x = street("05;13", "o1o1o1o1o1o1o1o1");
        due(x.house(0, 2), 0);
        due(x.house(1, 2), 255);
    }

    @Says("Of a HOUSE as told")
    void promise05_1_asToldBehindSales() {
        SoldWithIt x = street("05;13", "o0o1");
        x.sale(0, 1);
        due(x.house(0, 0), 0);
        due(x.house(0, 1), 5);
        due(x.house(0, 2), 1);
    }

    @Says("BAD")
    void promise05_2_BAD_house() {
        refused(BAD, x -> x.house(-1, 0));
        refused(BAD, x -> x.house(3, 0));
        refused(BAD, SoldWithIt::new, x -> x.house(0, 0));
        due(rich().house(2, 0), 2);
    }

    @Says("BAD")
    void promise05_2_BAD_what() {
        refused(BAD, x -> x.house(0, -1));
        refused(BAD, x -> x.house(0, 3));
    }

    // ---- promise 6: person

    @Says("the HOUSE (1; NONE: the street)")
    void promise06_1_NONE_theStreet() {
        SoldWithIt x = street("05", "o-o0o1");
        due(x.person(0, 1), NONE);
        due(x.person(1, 1), 0);
        due(x.person(2, 1), NONE);
    }

    @Says("HOUSES one OWNS, as bits (2)")
    void promise06_1_noHousesAndAll() {
        SoldWithIt x = street("10;11;12;13;14;15;16;17", "o-o-");
        due(x.person(0, 2), 0);
        due(x.person(1, 2), 255);
        x.sale(0, 0);
        due(x.person(1, 2), 255);
    }

    @Says("BAD")
    void promise06_2_BAD_person() {
        refused(BAD, x -> x.person(-1, 0));
        refused(BAD, x -> x.person(3, 0));
        refused(BAD, SoldWithIt::new, x -> x.person(0, 0));
        due(rich().person(2, 0), 2);
    }

    @Says("BAD")
    void promise06_2_BAD_what() {
        refused(BAD, x -> x.person(0, -1));
        refused(BAD, x -> x.person(0, 3));
    }
}
