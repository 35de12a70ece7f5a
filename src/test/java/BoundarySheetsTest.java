import java.math.BigInteger;
import java.util.ArrayList;
import java.util.List;
import java.util.function.Supplier;
import java.util.function.ToIntFunction;

/** The boundary cases of sheets, findings, refusals, counts and the digest: promises 31 to 38. */
public final class BoundarySheetsTest extends Boundaries {
    private static final int BYTES = 0, SHORTS = 1, INTS = 2;

    public static void main(String[] args) {
        new BoundarySheetsTest().runAll();
    }

    /** A row of 4 bytes, one of 2 bytes, one of 2 shorts; SHEET 3 is LOST. */
    private static SoldWithIt rows() {
        SoldWithIt x = rich();
        fill(x, 0, BYTES, 1, 2, 3, 4);
        fill(x, 1, BYTES, 8, 9);
        fill(x, 2, SHORTS, 7, 7);
        return x;
    }

    private void refusedByRows(int want, ToIntFunction<SoldWithIt> call) {
        refused(want, BoundarySheetsTest::rows, call);
    }

    private void getRefused(int finding, ToIntFunction<SoldWithIt> call) {
        refused(LEAST, finding, BoundarySheetsTest::rows, call);
    }

    private void rowIs(SoldWithIt x, int s, int form, int... items) {
        for (int i = 0; i < items.length; i++) {
            due(x.get(s, form, i), items[i]);
        }
        due(x.get(s, form, items.length), LEAST);
    }

    private void kept(int form, int v, int want) {
        SoldWithIt x = new SoldWithIt();
        x.sheet(0, form, 3);
        due(x.put(0, form, 1, v), 1);
        rowIs(x, 0, form, 0, want, 0);
    }

    // ---- sheets and findings

    @Says("SHEETS 0 .. 3 are LOST (at first)")
    void sheets_1_0To3LostAtFirst() {
        SoldWithIt x = new SoldWithIt();
        for (int s = 0; s <= 3; s++) {
            due(x.lose(s), NULL);
            due(x.sheet(s, INTS, 0), 0);
            due(x.lose(s), 0);
            due(x.lose(s), NULL);
        }
    }

    @Says("a row of a FORM: 0 bytes, 1 shorts, 2 ints")
    void sheets_1_forms0To2() {
        SoldWithIt x = new SoldWithIt();
        for (int form = 0; form <= 2; form++) {
            due(x.sheet(0, form, 1), 1);
            due(x.put(0, form, 0, 70000), 1);
            due(x.get(0, form, 0), new int[] {112, 4464, 70000}[form]);
        }
    }

    @Says("of 0 to 48 items")
    void sheets_1_0And48Items() {
        SoldWithIt x = new SoldWithIt();
        due(x.sheet(0, INTS, 0), 0);
        due(x.put(0, INTS, 0, 1), INDEX);
        due(x.sheet(0, INTS, 48), 48);
        due(x.put(0, INTS, 47, 1), 1);
        due(x.put(0, INTS, 48, 1), INDEX);
        due(x.get(0, INTS, 47), 1);
    }

    @Says("items (0 at first)")
    void sheets_1_items0AtFirst() {
        SoldWithIt x = new SoldWithIt();
        for (int form = 0; form <= 2; form++) {
            x.sheet(0, form, 48);
            for (int i = 0; i < 48; i++) {
                due(x.get(0, form, i), 0);
                x.put(0, form, i, -1);
            }
        }
    }

    @Says("1 NULL: the SHEET is LOST")
    void sheets_2_NULL_is1() {
        SoldWithIt x = new SoldWithIt();
        due(x.put(0, BYTES, 0, 0), -11);
        due(x.count(8), 1);
    }

    @Says("2 INDEX: there is no such item")
    void sheets_2_INDEX_is2() {
        SoldWithIt x = rows();
        due(x.put(0, BYTES, 4, 0), -12);
        due(x.count(8), 2);
        due(x.put(0, BYTES, 3, 0), 1);
    }

    @Says("3 CAST: it has another FORM")
    void sheets_2_CAST_is3() {
        SoldWithIt x = rows();
        due(x.put(0, SHORTS, 0, 0), -13);
        due(x.count(8), 3);
    }

    @Says("4 STORE: unlike FORMS")
    void sheets_2_STORE_is4() {
        SoldWithIt x = rows();
        due(x.copy(0, 0, 2, 0, 1), -14);
        due(x.count(8), 4);
    }

    @Says("5 SIZE: below 0")
    void sheets_2_SIZE_is5() {
        SoldWithIt x = rows();
        due(x.sheet(0, BYTES, -1), -15);
        due(x.count(8), 5);
        due(x.sheet(0, BYTES, 0), 0);
    }

    // ---- refusals

    @Says("BAD -2 (a number not as told, no such thing), NULL")
    void refusals_1_BAD_aheadOfNULL() {
        refusedByRows(BAD, x -> x.put(3, 3, 0, 0));
        refusedByRows(BAD, x -> x.put(3, -1, 0, 0));
        refusedByRows(BAD, x -> x.copy(3, 0, 4, 0, 1));
        refusedByRows(BAD, x -> x.copy(-1, 0, 3, 0, 1));
        getRefused(0, x -> x.get(3, 3, 0));
    }

    @Says("BAD -2 (a number not as told, no such thing), NULL, NOT -3 (as told), FULL -4")
    void refusals_1_BAD_aheadOfFULL() {
        Supplier<SoldWithIt> fullStreet = () -> street("00;11;22;33;44;55;66;77;88;99;", "");
        refused(BAD, fullStreet, x -> x.type(0, 256));
        Supplier<SoldWithIt> twelveSales = () -> {
            SoldWithIt x = rich();
            tellSales(x, 0, 1, 10);
            return x;
        };
        refused(FULL, twelveSales, x -> x.sale(7, 7));
        refused(BAD, twelveSales, x -> x.sale(8, 0));
        refused(BAD, twelveSales, x -> x.sale(0, 8));
        Supplier<SoldWithIt> five = () -> street("05", "o-o-o-o-o-");
        refused(ANY_BAD, five, x -> x.best(5, NONE));
        refused(ANY_BAD, five, x -> x.best(0, 5));
        refused(ANY_BAD, five, x -> x.rest(5));
        refused(ANY_BAD, five, x -> x.rest(-3));
        refused(BAD, five, x -> x.were(5));
        refused(BAD, five, x -> x.were(-2));
        Supplier<SoldWithIt> eightFacts = () -> {
            SoldWithIt x = rich();
            for (int i = 1; i < 8; i++) {
                x.fact(0, 1);
            }
            return x;
        };
        refused(BAD, eightFacts, x -> x.fact(8, 0));
        refused(BAD, eightFacts, x -> x.fact(0, 8));
    }

    @Says("the first that fits, in the order told at each act")
    void refusals_1_NULL_aheadOfFULL() {
        refused(NULL, () -> street("05;13;27;34;41", "o-"), x -> x.should(0));
    }

    @Says("the first that fits, in the order told at each act")
    void refusals_1_FULL_aheadOfNOT() {
        refused(FULL, () -> {
            SoldWithIt x = street("05;13;27;34;41", "o-");
            x.sheet(0, BYTES, 0);
            return x;
        }, x -> x.should(0));
        refused(FULL, () -> {
            SoldWithIt x = street("05;13;27;34;41", "o-");
            fill(x, 0, INTS, 9, 9, 9, 9, 9);
            return x;
        }, x -> x.should(0));
    }

    @Says("the first that fits")
    void refusals_1_BAD_aheadOfNOT() {
        refused(ANY_BAD, PromiseTest::chase, x -> x.rest(4));
        refused(ANY_BAD, PromiseTest::chase, x -> x.rest(-3));
    }

    @Says("the first that fits, in the order told at each act")
    void refusals_1_FULL_aheadOfNOTAtRest() {
        Supplier<SoldWithIt> noRestOfFive = () -> {
            SoldWithIt x = PromiseTest.chase();
            type(x, 1, "l-");
            return x;
        };
        refused(ANY_FULL, noRestOfFive, x -> x.rest(0));
    }

    @Says("other FINDINGS")
    void refusals_1_BAD_aheadOfSIZE() {
        refused(BAD, x -> x.sheet(4, BYTES, -1));
        refused(BAD, x -> x.sheet(-1, BYTES, -1));
        refused(BAD, x -> x.sheet(0, 3, -1));
        refused(BAD, x -> x.sheet(0, -1, -1));
    }

    @Says("in the order told at each act")
    void refusals_1_NULL_aheadOfCAST_and_INDEX() {
        for (int form = 0; form <= 2; form++) {
            int f = form;
            refusedByRows(NULL, x -> x.put(3, f, -1, 0));
            getRefused(1, x -> x.get(3, f, 48));
        }
    }

    @Says("in the order told at each act")
    void refusals_1_CAST_aheadOfINDEX() {
        refusedByRows(CAST, x -> x.put(0, SHORTS, 4, 0));
        refusedByRows(CAST, x -> x.put(0, INTS, -1, 0));
        getRefused(3, x -> x.get(0, SHORTS, 4));
        getRefused(3, x -> x.get(0, INTS, -1));
    }

    @Says("in the order told at each act")
    void refusals_1_NULL_aheadOfSTORE_and_INDEX() {
        for (int s = 0; s <= 3; s++) {
            int other = s;
            refusedByRows(NULL, x -> x.copy(other, -1, 3, 0, 1));
            refusedByRows(NULL, x -> x.copy(3, 0, other, 0, 49));
        }
    }

    @Says("in the order told at each act")
    void refusals_1_STORE_aheadOfINDEX() {
        refusedByRows(STORE, x -> x.copy(0, -1, 2, 0, 1));
        refusedByRows(STORE, x -> x.copy(2, 0, 0, 5, 1));
        refusedByRows(STORE, x -> x.copy(0, 0, 2, 0, -1));
    }

    @Says("They change nothing (FINDINGS but count() 8)")
    void refusals_2_aRefusedNumberLeavesTheFinding() {
        SoldWithIt x = rows();
        due(x.put(0, BYTES, 4, 0), INDEX);
        x.put(4, BYTES, 0, 0);
        x.get(4, BYTES, 0);
        x.sheet(0, BYTES, 49);
        x.copy(4, 0, 0, 0, 0);
        x.read(4);
        x.write(4);
        x.lose(4);
        x.should(4);
        x.should(1);
        x.type(0, 256);
        x.gain(9);
        due(x.count(8), 2);
    }

    @Says("They change nothing (FINDINGS but count() 8)")
    void refusals_2_aFindingLeavesTheRow() {
        SoldWithIt x = rows();
        x.put(0, BYTES, 4, 99);
        x.put(0, BYTES, -1, 99);
        x.put(0, INTS, 0, 99);
        x.sheet(0, INTS, -1);
        x.copy(1, 0, 0, 3, 2);
        x.copy(2, 0, 0, 0, 2);
        x.copy(0, 0, 1, 1, 2);
        rowIs(x, 0, BYTES, 1, 2, 3, 4);
        rowIs(x, 1, BYTES, 8, 9);
        rowIs(x, 2, SHORTS, 7, 7);
    }

    @Says("Where any number is told, a refusal is -100000 less x")
    void refusals_3_whereAnyNumberIsTold() {
        SoldWithIt x = street("05", "o-o-o-o-o-");
        due(x.worth(0, 0, 0), -100000 - 2);
        due(x.like(0, 0, 0), -100000 - 2);
        due(x.gain(5), -100000 - 2);
        due(x.best(5, 0), -100000 - 2);
        due(x.best(0, 0), -100000 - 4);
        due(x.rest(5), -100000 - 2);
        due(x.rest(0), -100000 - 4);
        due(x.value(1, 0), -100000 - 2);
        due(PromiseTest.chase().rest(0), -100000 - 3);
    }

    // ---- promises 31 and 32: sheet, lose

    @Says("a new row of a FORM with n items: n")
    void promise31_1_0And48Items() {
        SoldWithIt x = new SoldWithIt();
        due(x.sheet(0, BYTES, 0), 0);
        due(x.sheet(3, INTS, 48), 48);
    }

    @Says("A SHEET is a new row")
    void promise31_1_theNewRowIsOf0() {
        SoldWithIt x = rows();
        due(x.sheet(0, BYTES, 4), 4);
        rowIs(x, 0, BYTES, 0, 0, 0, 0);
        due(x.sheet(0, INTS, 2), 2);
        rowIs(x, 0, INTS, 0, 0);
        rowIs(x, 1, BYTES, 8, 9);
    }

    @Says("BAD: SHEET")
    void promise31_2_BAD_sheet() {
        refused(BAD, x -> x.sheet(-1, BYTES, 1));
        refused(BAD, x -> x.sheet(4, BYTES, 1));
    }

    @Says("FORM")
    void promise31_2_BAD_form() {
        refused(BAD, x -> x.sheet(0, -1, 1));
        refused(BAD, x -> x.sheet(0, 3, 1));
    }

    @Says("above 48")
    void promise31_2_BAD_above48() {
        refused(BAD, x -> x.sheet(0, BYTES, 49));
        refused(BAD, x -> x.sheet(3, INTS, MOST));
    }

    @Says("SIZE")
    void promise31_2_SIZE() {
        refused(SIZE, x -> x.sheet(0, BYTES, -1));
        refused(SIZE, x -> x.sheet(3, INTS, LEAST));
    }

    @Says("It is LOST: how many items it had")
    void promise32_1_0And48Items() {
        SoldWithIt x = rows();
        x.sheet(0, BYTES, 48);
        x.sheet(1, INTS, 0);
        due(x.lose(0), 48);
        due(x.lose(0), NULL);
        due(x.lose(1), 0);
        due(x.lose(1), NULL);
        due(x.get(0, BYTES, 0), LEAST);
        rowIs(x, 2, SHORTS, 7, 7);
    }

    @Says("BAD")
    void promise32_2_BAD() {
        refused(BAD, x -> x.lose(-1));
        refused(BAD, x -> x.lose(4));
    }

    @Says("NULL")
    void promise32_2_NULL() {
        refused(NULL, x -> x.lose(3));
        refused(NULL, SoldWithIt::new, x -> x.lose(0));
    }

    // ---- promises 33 and 34: put, get

    @Says("(the lowest bits that it has, with its sign")
    void promise33_1_bytesWrap() {
        kept(BYTES, 127, 127);
        kept(BYTES, 128, -128);
        kept(BYTES, -128, -128);
        kept(BYTES, -129, 127);
        kept(BYTES, 255, -1);
        kept(BYTES, 256, 0);
        kept(BYTES, MOST, -1);
        kept(BYTES, LEAST, 0);
    }

    @Says("(the lowest bits that it has, with its sign")
    void promise33_1_shortsWrap() {
        kept(SHORTS, 32767, 32767);
        kept(SHORTS, 32768, -32768);
        kept(SHORTS, -32768, -32768);
        kept(SHORTS, -32769, 32767);
        kept(SHORTS, 65535, -1);
        kept(SHORTS, 65536, 0);
        kept(SHORTS, MOST, -1);
        kept(SHORTS, LEAST, 0);
    }

    @Says("(the lowest bits that it has, with its sign")
    void promise33_1_intsAreWhole() {
        kept(INTS, MOST, MOST);
        kept(INTS, LEAST, LEAST);
        kept(INTS, -1, -1);
        kept(INTS, 65536, 65536);
    }

    @Says("by write(), too")
    void promise33_1_byWriteIntoEachForm() {
        for (int form = 0; form <= 2; form++) {
            SoldWithIt x = street("75", "o0o-");
            x.sale(0, 1);
            fill(x, 0, form, -1, -1, -1);
            due(x.write(0), 2);
            rowIs(x, 0, form, 1, 1, -1);
        }
    }

    @Says("BAD")
    void promise33_2_BAD() {
        refusedByRows(BAD, x -> x.put(-1, BYTES, 0, 1));
        refusedByRows(BAD, x -> x.put(4, BYTES, 0, 1));
        refusedByRows(BAD, x -> x.put(0, -1, 0, 1));
        refusedByRows(BAD, x -> x.put(0, 3, 0, 1));
    }

    @Says("NULL")
    void promise33_2_NULL() {
        refusedByRows(NULL, x -> x.put(3, BYTES, 0, 1));
    }

    @Says("CAST")
    void promise33_2_CAST() {
        refusedByRows(CAST, x -> x.put(0, SHORTS, 0, 1));
        refusedByRows(CAST, x -> x.put(0, INTS, 0, 1));
        refusedByRows(CAST, x -> x.put(2, BYTES, 0, 1));
    }

    @Says("INDEX")
    void promise33_2_INDEX() {
        refusedByRows(INDEX, x -> x.put(0, BYTES, -1, 1));
        refusedByRows(INDEX, x -> x.put(0, BYTES, 4, 1));
        refusedByRows(INDEX, x -> x.put(0, BYTES, 48, 1));
        refusedByRows(INDEX, x -> x.put(0, BYTES, LEAST, 1));
        refusedByRows(INDEX, x -> x.put(0, BYTES, MOST, 1));
    }

    @Says("Item i of it")
    void promise34_1_theFirstAndTheLast() {
        SoldWithIt x = rows();
        due(x.get(0, BYTES, 0), 1);
        due(x.get(0, BYTES, 3), 4);
        due(x.count(8), 1);
    }

    @Says("Item i of it")
    void promise34_1_mayBeTheLeastInt() {
        SoldWithIt x = new SoldWithIt();
        fill(x, 0, INTS, LEAST, BAD, NULL);
        due(x.get(0, INTS, 0), LEAST);
        due(x.get(0, INTS, 1), BAD);
        due(x.get(0, INTS, 2), NULL);
        due(x.count(8), 0);
    }

    @Says("BAD: the least int")
    void promise34_2_BAD() {
        getRefused(0, x -> x.get(-1, BYTES, 0));
        getRefused(0, x -> x.get(4, BYTES, 0));
        getRefused(0, x -> x.get(0, -1, 0));
        getRefused(0, x -> x.get(0, 3, 0));
    }

    @Says("so are NULL, CAST, INDEX (count() 8 tells)")
    void promise34_2_NULL() {
        getRefused(1, x -> x.get(3, BYTES, 0));
    }

    @Says("so are NULL, CAST, INDEX (count() 8 tells)")
    void promise34_2_CAST() {
        getRefused(3, x -> x.get(0, SHORTS, 0));
        getRefused(3, x -> x.get(2, BYTES, 0));
    }

    @Says("so are NULL, CAST, INDEX (count() 8 tells)")
    void promise34_2_INDEX() {
        getRefused(2, x -> x.get(0, BYTES, -1));
        getRefused(2, x -> x.get(0, BYTES, 4));
        getRefused(2, x -> x.get(0, BYTES, 48));
        getRefused(2, x -> x.get(0, BYTES, LEAST));
        getRefused(2, x -> x.get(0, BYTES, MOST));
    }

    // ---- promise 35: copy

    @Says("(perhaps s, as they were)")
    void promise35_1_ofItselfAsTheyWere() {
        SoldWithIt x = rows();
        due(x.copy(0, 0, 0, 1, 3), 1);
        rowIs(x, 0, BYTES, 1, 1, 2, 3);
        due(x.copy(0, 1, 0, 0, 3), 1);
        rowIs(x, 0, BYTES, 1, 2, 3, 3);
        due(x.copy(0, 0, 0, 0, 4), 1);
        rowIs(x, 0, BYTES, 1, 2, 3, 3);
    }

    @Says("n items of SHEET s, from i on, come to SHEET t")
    void promise35_1_upToTheEndOfBoth() {
        SoldWithIt x = rows();
        due(x.copy(0, 2, 1, 0, 2), 1);
        rowIs(x, 1, BYTES, 3, 4);
        due(x.copy(1, 0, 0, 2, 2), 1);
        due(x.copy(0, 0, 1, 1, 1), 1);
        rowIs(x, 0, BYTES, 1, 2, 3, 4);
        rowIs(x, 1, BYTES, 3, 1);
        x.sheet(2, INTS, 48);
        x.sheet(3, INTS, 48);
        x.put(2, INTS, 47, 5);
        due(x.copy(2, 0, 3, 0, 48), 1);
        due(x.get(3, INTS, 47), 5);
    }

    @Says("BAD: the SHEETS")
    void promise35_2_BAD() {
        refusedByRows(BAD, x -> x.copy(-1, 0, 0, 0, 1));
        refusedByRows(BAD, x -> x.copy(4, 0, 0, 0, 1));
        refusedByRows(BAD, x -> x.copy(0, 0, -1, 0, 1));
        refusedByRows(BAD, x -> x.copy(0, 0, 4, 0, 1));
    }

    @Says("NULL: s, t")
    void promise35_2_NULL() {
        refusedByRows(NULL, x -> x.copy(3, 0, 0, 0, 1));
        refusedByRows(NULL, x -> x.copy(0, 0, 3, 0, 1));
        refusedByRows(NULL, x -> x.copy(3, 0, 3, 0, 0));
    }

    @Says("STORE")
    void promise35_2_STORE() {
        refusedByRows(STORE, x -> x.copy(0, 0, 2, 0, 1));
        refusedByRows(STORE, x -> x.copy(2, 0, 0, 0, 0));
    }

    @Says("INDEX: i, j or n below 0")
    void promise35_2_INDEX_below0() {
        refusedByRows(INDEX, x -> x.copy(0, -1, 1, 0, 1));
        refusedByRows(INDEX, x -> x.copy(0, 0, 1, -1, 1));
        refusedByRows(INDEX, x -> x.copy(0, 1, 1, 1, -1));
        refusedByRows(INDEX, x -> x.copy(0, -1, 1, 0, 0));
        refusedByRows(INDEX, x -> x.copy(0, 0, 1, -1, 0));
        refusedByRows(INDEX, x -> x.copy(0, LEAST, 1, 0, 1));
        refusedByRows(INDEX, x -> x.copy(0, 0, 1, LEAST, 1));
        refusedByRows(INDEX, x -> x.copy(0, 1, 1, 1, LEAST));
    }

    @Says("not so many there")
    void promise35_2_INDEX_notSoManyThere() {
        refusedByRows(INDEX, x -> x.copy(1, 0, 0, 0, 3));
        refusedByRows(INDEX, x -> x.copy(1, 1, 0, 0, 2));
        refusedByRows(INDEX, x -> x.copy(1, 2, 0, 0, 1));
        refusedByRows(INDEX, x -> x.copy(0, 0, 1, 0, 3));
        refusedByRows(INDEX, x -> x.copy(0, 0, 1, 1, 2));
        refusedByRows(INDEX, x -> x.copy(0, 0, 1, 2, 1));
    }

    @Says("not so many there")
    void promise35_2_INDEX_sumsThatWouldWrap() {
        refusedByRows(INDEX, x -> x.copy(0, 1, 1, 1, MOST));
        refusedByRows(INDEX, x -> x.copy(0, MOST, 1, 0, 1));
        refusedByRows(INDEX, x -> x.copy(0, 0, 1, MOST, 1));
        refusedByRows(INDEX, x -> x.copy(0, MOST, 1, MOST, MOST));
    }

    @Says("(of n 0, too: i or j above the size)")
    void promise35_2_ofNoItemsUpToTheSize() {
        SoldWithIt x = rows();
        due(x.copy(0, 4, 1, 2, 0), 1);
        due(x.copy(0, 0, 1, 0, 0), 1);
        x.sheet(2, BYTES, 0);
        due(x.copy(2, 0, 2, 0, 0), 1);
        due(x.copy(0, 4, 2, 0, 0), 1);
        rowIs(x, 0, BYTES, 1, 2, 3, 4);
        rowIs(x, 1, BYTES, 8, 9);
    }

    @Says("(of n 0, too: i or j above the size)")
    void promise35_2_INDEX_ofNoItemsAboveTheSize() {
        refusedByRows(INDEX, x -> x.copy(0, 5, 1, 0, 0));
        refusedByRows(INDEX, x -> x.copy(0, 0, 1, 3, 0));
    }

    // ---- promise 36: write

    @Says("as many as there are items and PEOPLE: how many")
    void promise36_1_fewerAndMoreItemsThanPeople() {
        SoldWithIt x = street("05;73", "o0g1o-");
        x.sale(0, 2);
        fill(x, 0, INTS, 9, 9);
        due(x.write(0), 2);
        rowIs(x, 0, INTS, 2, 1);
        fill(x, 0, INTS, 9, 9, 9);
        due(x.write(0), 3);
        rowIs(x, 0, INTS, 2, 1, 2);
        fill(x, 0, INTS, 9, 9, 9, 9);
        due(x.write(0), 3);
        rowIs(x, 0, INTS, 2, 1, 2, 9);
    }

    @Says("as many as there are items and PEOPLE: how many")
    void promise36_1_noItemsAndNoPeople() {
        SoldWithIt x = street("05", "o0o-");
        x.sheet(0, BYTES, 0);
        due(x.write(0), 0);
        x.wipe(1);
        fill(x, 0, BYTES, 9);
        due(x.write(0), 0);
        rowIs(x, 0, BYTES, 9);
    }

    @Says("KEEPERS of PEOPLE 0 on behind all SALES")
    void promise36_1_eightPeople() {
        SoldWithIt x = ring();
        x.sheet(0, BYTES, 48);
        due(x.write(0), 8);
        due(x.get(0, BYTES, 7), 7);
        x.sale(1, 7);
        due(x.write(0), 8);
        due(x.get(0, BYTES, 0), 7);
        due(x.get(0, BYTES, 8), 0);
    }

    @Says("BAD")
    void promise36_2_BAD() {
        refused(BAD, x -> x.write(-1));
        refused(BAD, x -> x.write(4));
    }

    @Says("NULL")
    void promise36_2_NULL() {
        refused(NULL, x -> x.write(3));
        refused(NULL, SoldWithIt::new, x -> x.write(0));
    }

    // ---- promises 37 and 38: count, digest

    @Says("0 HOUSES, 1 PEOPLE, 2, 3 bytes of texts, 4 SALES, 5 FACTS")
    void promise37_1_ofNothing() {
        SoldWithIt x = new SoldWithIt();
        for (int what = 0; what <= 8; what++) {
            due(x.count(what), 0);
        }
    }

    @Says("0 HOUSES, 1 PEOPLE, 2, 3 bytes of texts, 4 SALES, 5 FACTS")
    void promise37_1_ofAllThereCanBe() {
        SoldWithIt x = ring();
        tellSales(x, 0, 0, 12);
        for (int i = 0; i < 8; i++) {
            x.fact(0, 0);
        }
        int[] most = {8, 8, 23, 16, 12, 8};
        for (int what = 0; what < most.length; what++) {
            due(x.count(what), most[what]);
        }
    }

    @Says("2, 3 bytes of texts")
    void promise37_1_bytesOfTextsWithAFault() {
        SoldWithIt x = street("00;11;22;33;44;55;66;77;88;99;", "o0o1o2o3o4o5o6o7o8o9o0o1");
        due(x.count(2), 30);
        due(x.count(3), 24);
        due(x.count(0), 0);
        due(x.count(1), 0);
    }

    @Says("6 how often all were sold behind all SALES")
    void promise37_1_howOftenAllWereSold() {
        SoldWithIt x = street("75", "o0o0o0o0o0o0o0o-");
        x.law(2, 0);
        due(x.count(6), 0);
        tellSales(x, 0, 7, 12);
        due(x.count(6), 84);
        x.law(2, 1);
        due(x.count(6), 7);
        x.law(0, 0);
        due(x.count(6), 0);
    }

    @Says("7 those locked in")
    void promise37_1_thoseLockedIn() {
        due(street("", "l-l-l-l-l-l-l-l-").count(7), 8);
        due(street("", "o-g-o-g-").count(7), 0);
    }

    @Says("8 the number of the latest FINDING (0 before any)")
    void promise37_1_theLatestFinding() {
        SoldWithIt x = new SoldWithIt();
        x.sheet(4, BYTES, 0);
        due(x.count(8), 0);
        x.sheet(0, BYTES, -1);
        x.lose(0);
        due(x.count(8), 1);
        x.sheet(0, BYTES, 0);
        due(x.count(8), 1);
    }

    @Says("BAD")
    void promise37_2_BAD() {
        refused(BAD, x -> x.count(-1));
        refused(BAD, x -> x.count(9));
    }

    private static long digestBy(List<Long> told) {
        BigInteger h = BigInteger.valueOf(17);
        for (long v : told) {
            h = h.multiply(BigInteger.valueOf(31)).add(BigInteger.valueOf(v));
        }
        return h.longValue();
    }

    /** All that digest() is made of, by the calls that the document names, in its order. */
    private static List<Long> toldBy(SoldWithIt x) {
        List<Long> told = new ArrayList<>();
        int houses = x.count(0), people = x.count(1), sales = x.count(4);
        for (int what = 0; what <= 7; what++) {
            told.add((long) x.count(what));
        }
        told.add((long) x.fault(0));
        told.add((long) x.fault(1));
        for (int h = 0; h < houses; h++) {
            for (int what = 0; what <= 2; what++) {
                told.add((long) x.house(h, what));
            }
            told.add((long) x.whose(h, sales));
            for (int p = 0; p < people; p++) {
                told.add((long) x.value(h, p));
            }
        }
        for (int p = 0; p < people; p++) {
            for (int what = 0; what <= 2; what++) {
                told.add((long) x.person(p, what));
            }
            told.add((long) x.keeper(p, sales));
            told.add((long) x.sold(p, sales));
            told.add((long) x.gain(p));
            told.add((long) x.out(p));
            told.add((long) x.come(p, (1 << people) - 1 - (1 << p)));
        }
        for (int i = 0; i < sales; i++) {
            told.add((long) x.length(i));
        }
        told.add((long) x.changes());
        return told;
    }

    @Says("h is 17; h becomes 31 h and each of")
    void promise38_1_ofNothing() {
        due(new SoldWithIt().digest(),
            digestBy(List.of(0L, 0L, 0L, 0L, 0L, 0L, 0L, 0L, -1L, -1L, 0L)));
    }

    @Says("as longs that wrap")
    void promise38_1_wraps() {
        SoldWithIt x = ring();
        for (int p = 0; p < 8; p++) {
            for (int other = 0; other < 8; other++) {
                x.worth(p, other, p - other);
                x.like(p, other, other - 2 * p % 5);
            }
        }
        for (int i = 0; i < 12; i++) {
            x.sale(i % 5 + 3, (3 * i + 1) % 8);
        }
        due(x.digest(), digestBy(toldBy(x)));
    }

    @Says("changes(); as longs that wrap")
    void promise38_1_changesComeLast() {
        SoldWithIt x = street("05;15", "o0o1");
        x.worth(0, 1, 1);
        x.worth(1, 0, 1);
        List<Long> told = toldBy(x);
        due(told.get(told.size() - 1), 1);
        due(x.digest(), digestBy(told));
    }

    @Says("of texts fault()")
    void promise38_1_ofTextsWithFaults() {
        SoldWithIt x = street("05;", "o");
        due(x.digest(), digestBy(List.of(0L, 0L, 3L, 1L, 0L, 0L, 0L, 0L, 3L, 1L, 0L)));
    }

    @Says("come(it, all others as bits of PEOPLE that there are)")
    void promise38_1_ofOneAlone() {
        SoldWithIt x = street("05", "l0");
        x.sale(0, 0);
        x.fact(0, 0);
        due(x.digest(), digestBy(List.of(1L, 1L, 2L, 2L, 1L, 1L, 0L, 1L, -1L, -1L,
            0L, 5L, 1L, 0L, 5L,
            2L, 0L, 1L, 0L, 0L, 5L, -1L, 0L,
            1L, 0L)));
    }
}
