/** Each promise of the document by itself: ordinary inputs, the edges it names, wrong inputs. */
public final class PromiseTest {
    private static final int LEAST = Integer.MIN_VALUE, MOST = Integer.MAX_VALUE;
    private static int wrong = 0;
    private static int asked = 0;
    private static String promise = "";

    public static void main(String[] args) {
        newObject();
        texts();
        told();
        lawAndSales();
        stroke();
        tastesAndGain();
        bestPlaces();
        restingPlaces();
        wayOut();
        changing();
        owningAsOneShould();
        dinners();
        whereAllWere();
        sheets();
        counting();
        digesting();
        System.out.println(asked + " answers asked, " + wrong + " not as due");
        if (wrong != 0) {
            System.exit(1);
        }
    }

    private static void due(String call, long got, long want) {
        asked++;
        if (got != want) {
            wrong++;
            System.out.println("promise " + promise + ": " + call + " answered " + got + ", due is " + want);
        }
    }

    private static SoldWithIt street(String houses, String people) {
        SoldWithIt x = new SoldWithIt();
        typeAll(x, 0, houses);
        typeAll(x, 1, people);
        return x;
    }

    private static void typeAll(SoldWithIt x, int text, String bytes) {
        for (int i = 0; i < bytes.length(); i++) {
            x.type(text, bytes.charAt(i));
        }
    }

    private static void fill(SoldWithIt x, int s, int form, int... items) {
        x.sheet(s, form, items.length);
        for (int i = 0; i < items.length; i++) {
            x.put(s, form, i, items[i]);
        }
    }

    private static void newObject() {
        promise = "1";
        SoldWithIt x = new SoldWithIt();
        for (int what = 0; what <= 8; what++) {
            due("count(" + what + ")", x.count(what), 0);
        }
        due("fault(0)", x.fault(0), -1);
        due("fault(1)", x.fault(1), -1);
        due("undo()", x.undo(), -3);
        due("forget()", x.forget(), 0);
        for (int s = 0; s < 4; s++) {
            due("lose(" + s + ")", x.lose(s), -11);
        }
        due("law(0, 1)", x.law(0, 1), 1);
        due("law(1, 1)", x.law(1, 1), 1);
        due("law(2, 1)", x.law(2, 1), 1);
    }

    private static void texts() {
        promise = "2";
        SoldWithIt x = new SoldWithIt();
        due("type(2, 48)", x.type(2, 48), -2);
        due("type(-1, 48)", x.type(-1, 48), -2);
        due("type(least, 48)", x.type(LEAST, 48), -2);
        due("type(0, -1)", x.type(0, -1), -2);
        due("type(0, 256)", x.type(0, 256), -2);
        for (int i = 1; i <= 30; i++) {
            due("type(0, 255)", x.type(0, 255), i);
        }
        due("31st type(0, 0)", x.type(0, 0), -4);
        due("31st type(0, 256)", x.type(0, 256), -2);
        for (int i = 1; i <= 24; i++) {
            due("type(1, 0)", x.type(1, 0), i);
        }
        due("25th type(1, 0)", x.type(1, 0), -4);

        promise = "3";
        due("wipe(0)", x.wipe(0), 30);
        due("wipe(0) again", x.wipe(0), 0);
        due("count(3)", x.count(3), 24);
        due("wipe(1)", x.wipe(1), 24);
        due("wipe(2)", x.wipe(2), -2);
        due("wipe(-1)", x.wipe(-1), -2);
        due("type(0, 48)", x.type(0, 48), 1);

        promise = "4";
        faultIs(0, "", -1);
        faultIs(0, "79", -1);
        faultIs(0, "80", 0);
        faultIs(0, "/0", 0);
        faultIs(0, ";", 0);
        faultIs(0, "7", 1);
        faultIs(0, "7:", 1);
        faultIs(0, "7/", 1);
        faultIs(0, "00;", 3);
        faultIs(0, "00:", 2);
        faultIs(0, "00;8", 3);
        faultIs(0, "00;0", 4);
        faultIs(0, "00;01;x1", 6);
        faultIs(0, "00;11;22;33;44;55;66;77", -1);
        faultIs(0, "00;11;22;33;44;55;66;77x", 23);
        faultIs(0, "00;11;22;33;44;55;66;77;", 24);
        faultIs(0, "00;11;22;33;44;55;66;77;00", 24);
        faultIs(0, "00;11;22;33;44;55;66;77;00;11", 24);
        faultIs(0, "00;11;22;33;44;55;66;7;;00", 22);
        faultIs(1, "", -1);
        faultIs(1, "o-g0l7", -1);
        faultIs(1, "x", 0);
        faultIs(1, "0", 0);
        faultIs(1, "o", 1);
        faultIs(1, "oo", 1);
        faultIs(1, "o8", 1);
        faultIs(1, "o/", 1);
        faultIs(1, "o0;", 2);
        faultIs(1, "o0g", 3);
        faultIs(1, "o0g1l2o3g4l5o6g7", -1);
        faultIs(1, "o0g1l2o3g4l5o6g7x", 16);
        faultIs(1, "o0g1l2o3g4l5o6g7o0", 16);
        due("fault(2)", x.fault(2), -2);
        due("fault(-1)", x.fault(-1), -2);
    }

    private static void faultIs(int text, String bytes, int want) {
        SoldWithIt x = new SoldWithIt();
        typeAll(x, text, bytes);
        due("fault(" + text + ") of \"" + bytes + "\"", x.fault(text), want);
        if (want >= 0) {
            due("how many by \"" + bytes + "\"", x.count(text), 0);
        }
    }

    private static void told() {
        promise = "5";
        SoldWithIt x = street("05;73;09", "o0g1l0o7l-");
        due("house(0, 0)", x.house(0, 0), 0);
        due("house(0, 1)", x.house(0, 1), 5);
        due("house(0, 2)", x.house(0, 2), 5);
        due("house(1, 0)", x.house(1, 0), 7);
        due("house(1, 1)", x.house(1, 1), 3);
        due("house(1, 2)", x.house(1, 2), 2);
        due("house(2, 1)", x.house(2, 1), 9);
        due("house(2, 2)", x.house(2, 2), 0);
        due("house(3, 0)", x.house(3, 0), -2);
        due("house(-1, 0)", x.house(-1, 0), -2);
        due("house(0, 3)", x.house(0, 3), -2);
        due("house(0, -1)", x.house(0, -1), -2);

        promise = "6";
        due("person(0, 0)", x.person(0, 0), 0);
        due("person(1, 0)", x.person(1, 0), 1);
        due("person(2, 0)", x.person(2, 0), 2);
        due("person(2, 1)", x.person(2, 1), 0);
        due("person(1, 1)", x.person(1, 1), 1);
        due("person(3, 1), in no house", x.person(3, 1), -1);
        due("person(4, 1), in the street", x.person(4, 1), -1);
        due("person(0, 2)", x.person(0, 2), 5);
        due("person(1, 2)", x.person(1, 2), 0);
        due("person(5, 0)", x.person(5, 0), -2);
        due("person(-1, 0)", x.person(-1, 0), -2);
        due("person(0, 3)", x.person(0, 3), -2);
        due("person(0, -1)", x.person(0, -1), -2);
        x.sale(0, 1);
        due("person(0, 2) is as told, behind a sale too", x.person(0, 2), 5);
        due("house(0, 0) is as told, behind a sale too", x.house(0, 0), 0);
        x.type(0, ';');
        due("house(0, 0) with a fault", x.house(0, 0), -2);
        due("person(0, 1) with a fault in the street", x.person(0, 1), -1);
        due("person(0, 2) with a fault in the street", x.person(0, 2), 0);
        typeAll(x, 0, "11;11;11;11;18");
        due("house(7, 1)", x.house(7, 1), 8);
        due("house(7, 2)", x.house(7, 2), 8);
        due("person(1, 2)", x.person(1, 2), 0xf8);
    }

    private static void lawAndSales() {
        promise = "7";
        SoldWithIt x = street("01;12", "o0g1");
        for (int what = 0; what <= 2; what++) {
            due("law(" + what + ", 2)", x.law(what, 2), -2);
            due("law(" + what + ", -1)", x.law(what, -1), -2);
            due("law(" + what + ", 0)", x.law(what, 0), 1);
            due("law(" + what + ", 0) again", x.law(what, 0), 0);
            due("law(" + what + ", 1)", x.law(what, 1), 0);
        }
        due("law(3, 0)", x.law(3, 0), -2);
        due("law(-1, 0)", x.law(-1, 0), -2);

        promise = "8";
        due("sale(8, 0)", x.sale(8, 0), -2);
        due("sale(-1, 0)", x.sale(-1, 0), -2);
        due("sale(0, 8)", x.sale(0, 8), -2);
        due("sale(0, -1)", x.sale(0, -1), -2);
        for (int i = 1; i <= 12; i++) {
            due("sale(7, 7)", x.sale(7, 7), i);
        }
        due("13th sale(0, 0)", x.sale(0, 0), -4);
        due("13th sale(0, 8)", x.sale(0, 8), -2);

        promise = "10";
        for (int left = 11; left >= 0; left--) {
            due("undo()", x.undo(), left);
        }
        due("undo() of none", x.undo(), -3);

        promise = "9";
        due("read(4)", x.read(4), -2);
        due("read(-1)", x.read(-1), -2);
        due("read(0), lost", x.read(0), -11);
        due("count(8)", x.count(8), 1);
        fill(x, 0, 2, 1, 0, 0, 1, 5);
        due("read(0) with half a sale", x.read(0), 2);
        due("whose(1, 1)", x.whose(1, 1), 0);
        due("whose(0, 2)", x.whose(0, 2), 1);
        fill(x, 1, 1, 0, 0, 7, 7, 8, 0, 0, 0);
        due("read(1) up to a bad house", x.read(1), 2);
        fill(x, 1, 0, 0, 0, 0, 256 + 1, 0, -1, 0, 0);
        due("read(1) up to a bad buyer", x.read(1), 2);
        due("count(4)", x.count(4), 6);
        x.sheet(2, 0, 48);
        due("read(2) up to the twelfth", x.read(2), 6);
        due("read(2) when full", x.read(2), 0);
        x.sheet(2, 0, 1);
        due("read(2) of one item", x.read(2), 0);
        x.sheet(2, 0, 0);
        due("read(2) of none", x.read(2), 0);
        x.undo();
        fill(x, 2, 2, 1, 1);
        due("read(2) of one sale", x.read(2), 1);
    }

    private static void stroke() {
        promise = "11 to 14";
        // 0 is in 1's house, 1 in 2's, 2 in the street; 3 buys.
        SoldWithIt x = street("01;12;23;04", "o1g2l-o-");
        x.sale(1, 3);
        due("length(0)", x.length(0), 3);
        ownersBehind(x, 0, 0, 1, 2, 0);
        ownersBehind(x, 1, 3, 3, 2, 3);
        keepersBehind(x, 0, 0, 1, 2, 3);
        keepersBehind(x, 1, 3, 1, 2, 3);
        timesBehind(x, 1, 1, 0, 0, 0);
        x.sale(2, 3);
        due("length(1): what 1 owned was sold before", x.length(1), 1);
        keepersBehind(x, 2, 3, 3, 2, 3);
        x.sale(1, 2);
        due("length(2): nobody is sold again", x.length(2), 1);
        keepersBehind(x, 3, 3, 3, 2, 3);
        x.law(2, 0);
        due("length(2) without ONCE", x.length(2), 1);
        keepersBehind(x, 3, 2, 3, 2, 3);
        timesBehind(x, 3, 2, 1, 0, 0);
        timesBehind(x, 0, 0, 0, 0, 0);
        due("length(0) of three", x.length(0), 3);
        due("length(1) of three", x.length(1), 1);
        due("count(6)", x.count(6), 3);
        x.law(0, 0);
        keepersBehind(x, 3, 0, 1, 2, 3);
        ownersBehind(x, 3, 0, 2, 3, 0);
        due("count(6) without WITHIN", x.count(6), 0);

        x = street("01;12;23;04", "o1g2l-o-");
        x.law(1, 0);
        x.sale(1, 3);
        due("length(0) without CHAIN", x.length(0), 1);
        ownersBehind(x, 1, 0, 3, 2, 0);
        keepersBehind(x, 1, 3, 1, 2, 3);

        x.undo();
        ownersBehind(x, 0, 0, 1, 2, 0);
        due("count(6) behind an undone sale", x.count(6), 0);
        x.sale(0, 3);
        ownersBehind(x, 1, 3, 1, 2, 0);

        // The chain goes on through houses of those sold by it; the buyer in them is not sold.
        x = street("00;11;20;30", "o1o2o3o0");
        x.sale(1, 3);
        due("length of a chain that stops at the buyer", x.length(0), 2);
        ownersBehind(x, 1, 3, 3, 2, 3);
        keepersBehind(x, 1, 3, 1, 2, 3);
        x.undo();
        x.sale(3, 1);
        due("length of a chain that ends where the buyer is", x.length(0), 2);
        ownersBehind(x, 1, 0, 1, 1, 1);
        keepersBehind(x, 1, 0, 1, 1, 3);
        x.undo();
        x.sale(0, 0);
        due("length, one buys what one has", x.length(0), 4);
        ownersBehind(x, 1, 0, 0, 0, 0);
        keepersBehind(x, 1, 0, 0, 0, 0);
        timesBehind(x, 1, 0, 1, 1, 1);

        // Without ONCE one may be sold to whoever keeps one already, with what one owns.
        x = street("11;12", "o-o0");
        x.law(2, 0);
        x.sale(0, 0);
        x.sale(1, 1);
        x.sale(0, 0);
        due("length(2)", x.length(2), 2);
        timesBehind(x, 3, 0, 2);

        // What there is not is told, but nothing is done.
        x = street("01;12", "o0o1");
        x.sale(2, 0);
        x.sale(0, 2);
        due("length(0) of no house", x.length(0), 0);
        due("length(1) to nobody", x.length(1), 0);
        ownersBehind(x, 2, 0, 1);
        keepersBehind(x, 2, 0, 1);
        x.type(1, 'g');
        x.type(1, '-');
        due("length(1) to somebody who came", x.length(1), 1);

        due("whose(2, 0)", x.whose(2, 0), -2);
        due("whose(-1, 0)", x.whose(-1, 0), -2);
        due("whose(0, 3)", x.whose(0, 3), -2);
        due("whose(0, -1)", x.whose(0, -1), -2);
        due("keeper(3, 0)", x.keeper(3, 0), -2);
        due("keeper(-1, 0)", x.keeper(-1, 0), -2);
        due("keeper(0, 3)", x.keeper(0, 3), -2);
        due("keeper(0, -1)", x.keeper(0, -1), -2);
        due("sold(3, 0)", x.sold(3, 0), -2);
        due("sold(-1, 0)", x.sold(-1, 0), -2);
        due("sold(0, 3)", x.sold(0, 3), -2);
        due("sold(0, -1)", x.sold(0, -1), -2);
        due("length(2)", x.length(2), -2);
        due("length(-1)", x.length(-1), -2);

        x = street("71;12", "o1o-");
        due("whose(0, 0), an owner who is not there", x.whose(0, 0), 7);
        x.sale(1, 1);
        due("length, what an absent one owns is not sold with anybody", x.length(0), 1);

        x = street("", "o-o-o-o-o-o-o-o-");
        keepersBehind(x, 0, 0, 1, 2, 3, 4, 5, 6, 7);
    }

    private static void ownersBehind(SoldWithIt x, int k, int... owners) {
        for (int h = 0; h < owners.length; h++) {
            due("whose(" + h + ", " + k + ")", x.whose(h, k), owners[h]);
        }
    }

    private static void keepersBehind(SoldWithIt x, int k, int... keepers) {
        for (int p = 0; p < keepers.length; p++) {
            due("keeper(" + p + ", " + k + ")", x.keeper(p, k), keepers[p]);
        }
    }

    private static void timesBehind(SoldWithIt x, int k, int... times) {
        for (int p = 0; p < times.length; p++) {
            due("sold(" + p + ", " + k + ")", x.sold(p, k), times[p]);
        }
    }

    private static void tastesAndGain() {
        promise = "15";
        SoldWithIt x = street("05;13;27", "o0g0l1");
        due("worth(0, 1, 9)", x.worth(0, 1, 9), 0);
        due("worth(0, 1, -9)", x.worth(0, 1, -9), 9);
        due("worth(0, 1, 4)", x.worth(0, 1, 4), -9);
        due("worth(1, 0, 2), the other way", x.worth(1, 0, 2), 0);
        due("worth(7, 6, 1), not there", x.worth(7, 6, 1), 0);
        due("worth(0, 0, 1)", x.worth(0, 0, 1), -100002);
        due("worth(8, 0, 1)", x.worth(8, 0, 1), -100002);
        due("worth(-1, 0, 1)", x.worth(-1, 0, 1), -100002);
        due("worth(0, 8, 1)", x.worth(0, 8, 1), -100002);
        due("worth(0, -1, 1)", x.worth(0, -1, 1), -100002);
        due("worth(0, 1, 10)", x.worth(0, 1, 10), -100002);
        due("worth(0, 1, -10)", x.worth(0, 1, -10), -100002);
        due("worth(0, 1, 4), unchanged", x.worth(0, 1, 4), 4);

        promise = "16";
        due("like(0, 1, 9)", x.like(0, 1, 9), 0);
        due("like(0, 1, -9)", x.like(0, 1, -9), 9);
        due("like(0, 1, 1)", x.like(0, 1, 1), -9);
        due("like(6, 7, 1), not there", x.like(6, 7, 1), 0);
        due("like(1, 1, 0)", x.like(1, 1, 0), -100002);
        due("like(8, 1, 0)", x.like(8, 1, 0), -100002);
        due("like(-1, 1, 0)", x.like(-1, 1, 0), -100002);
        due("like(1, 8, 0)", x.like(1, 8, 0), -100002);
        due("like(1, -1, 0)", x.like(1, -1, 0), -100002);
        due("like(0, 1, 10)", x.like(0, 1, 10), -100002);
        due("like(0, 1, -10)", x.like(0, 1, -10), -100002);

        promise = "17";
        due("gain(0)", x.gain(0), 5);
        due("gain(1)", x.gain(1), 3);
        x.worth(0, 2, -8);
        x.sale(1, 0);
        due("gain(0): houses 0, 1, 2 and person 2", x.gain(0), 5 + 3 + 7 - 8);
        due("gain(1)", x.gain(1), 0);
        x.sale(0, 1);
        due("gain(1): all houses and person 0", x.gain(1), 15 + 2);
        due("gain(0): person 2", x.gain(0), -8);
        due("gain(3)", x.gain(3), -100002);
        due("gain(-1)", x.gain(-1), -100002);
    }

    private static void bestPlaces() {
        promise = "18";
        SoldWithIt x = street("05;13", "o0l1");
        due("best(0, -1) without sales", x.best(0, -1), 5);
        due("best(0, 0): the street is ahead", x.best(0, 0), -1);
        x.worth(0, 1, -4);
        x.sale(1, 0);
        // With 1 elsewhere: 5 + 3; with 1 in house 1: 8 - 4.
        due("best(0, -1)", x.best(0, -1), 8);
        due("best(0, 1)", x.best(0, 1), -1);
        x.worth(0, 1, 2);
        due("best(0, -1) when worth has changed", x.best(0, -1), 10);
        due("best(0, 0)", x.best(0, 0), -1);
        due("best(0, 1)", x.best(0, 1), 1);
        due("best(1, -1): whatever they do", x.best(1, -1), 0);
        x.sale(0, 1);
        // To 1, house 0 comes, and all of 0's with 0, if 0 is in it.
        due("best(1, -1)", x.best(1, -1), 8);
        due("best(1, 0)", x.best(1, 0), 0);
        due("best(1, 1)", x.best(1, 1), -1);
        due("best(2, -1)", x.best(2, -1), -100002);
        due("best(-1, -1)", x.best(-1, -1), -100002);
        due("best(0, 2)", x.best(0, 2), -100002);
        due("best(0, -2)", x.best(0, -2), -100002);
        typeAll(x, 1, "o-o-");
        due("best(1, -1) of four", x.best(1, -1), 8);
        due("best(1, 3)", x.best(1, 3), -1);
        typeAll(x, 1, "o-");
        due("best(1, -1) of five", x.best(1, -1), -100004);
        due("best(5, -1) of five", x.best(5, -1), -100002);
        due("best(0, 5) of five", x.best(0, 5), -100002);
        x = street("", "o-");
        due("best(0, -1) without houses", x.best(0, -1), 0);
        due("best(0, 0) without houses", x.best(0, 0), -1);
        // Only in house 0 is anybody sold to 1, and only 0 is worth something.
        x = street("01;02", "o-o-");
        x.sale(0, 1);
        due("best(1, -1): 0 elsewhere, or in it: all houses", x.best(1, -1), 3);
        x.worth(1, 0, -9);
        due("best(1, -1): rather one house", x.best(1, -1), 1);
        due("best(1, 0)", x.best(1, 0), -1);
        x = street("71;72", "o-o-");
        x.sale(0, 0);
        x.worth(0, 1, 3);
        due("best(0, -1): with 1", x.best(0, -1), 4);
        due("best(0, 0)", x.best(0, 0), -1);
        due("best(0, 1): the second row", x.best(0, 1), 0);
    }

    private static void restingPlaces() {
        promise = "19";
        SoldWithIt x = new SoldWithIt();
        due("rest(-2) of nobody", x.rest(-2), 1);
        due("rest(-1) of nobody", x.rest(-1), 1);
        due("rest(0) of nobody", x.rest(0), -100002);

        x = street("05;13", "o-l1");
        due("rest(-2): 0 anywhere", x.rest(-2), 3);
        due("rest(0)", x.rest(0), -1);
        due("rest(1): stays where told", x.rest(1), 1);
        x.sale(0, 1);
        x.like(0, 1, 2);
        due("rest(-2): 0 with 1", x.rest(-2), 1);
        due("rest(0)", x.rest(0), 0);
        x.like(0, 1, -2);
        due("rest(-2): 0 not with 1", x.rest(-2), 2);
        due("rest(0)", x.rest(0), -1);
        due("rest(2)", x.rest(2), -100002);
        due("rest(-3)", x.rest(-3), -100002);

        x.undo();
        due("rest(-2) without the sale", x.rest(-2), 3);
        x.sale(0, 1);
        x.sale(1, 1);
        due("rest(-2): 0 in the street", x.rest(-2), 1);
        due("rest(0)", x.rest(0), -1);

        x = chase();
        due("rest(-2): none", x.rest(-2), 0);
        due("rest(-1): none", x.rest(-1), 0);
        due("rest(0): none", x.rest(0), -100003);
        due("rest(4): nobody", x.rest(4), -100002);
        typeAll(x, 1, "o-");
        due("rest(-2) of five", x.rest(-2), -100004);
        due("rest(-1) of five", x.rest(-1), -100004);
        due("rest(4) of five", x.rest(4), -100004);
        due("rest(5) of five", x.rest(5), -100002);
    }

    /**
     * 2 would be in house 0, to be kept by 0; there 3, who owns it, goes to house 1 to be kept by
     * 1, and 2 is sold to 1 as well; so 2 goes elsewhere; then 3 goes to house 2, to be kept by 2;
     * then 2 can be in house 0 again, but house 2 is sold with 2, and 3 in it, to 0: and so on.
     */
    static SoldWithIt chase() {
        SoldWithIt x = street("30;00;20", "l-l-o-g-");
        x.sale(1, 1);
        x.sale(0, 0);
        x.sale(2, 2);
        x.like(2, 0, 3);
        x.like(2, 1, -3);
        x.like(3, 1, 1);
        x.like(3, 2, 3);
        return x;
    }

    private static void wayOut() {
        promise = "20";
        SoldWithIt x = street("01;11;21;31;41;51;61;71", "o3g3l3o-o7l0g5o0");
        for (int p = 0; p < 8; p++) {
            due("out(" + p + ") without sales", x.out(p), 0);
        }
        x.sale(3, 0);
        due("out(0): to the next", x.out(0), 1);
        due("out(1): a guest walks too", x.out(1), 1);
        due("out(2): locked in", x.out(2), -1);
        due("out(3): in the street", x.out(3), 0);
        due("out(5): locked in, but not sold", x.out(5), 0);
        x.sale(2, 1);
        x.sale(4, 1);
        due("out(0): two on", x.out(0), 2);
        x.sale(1, 7);
        x.sale(5, 7);
        due("out(0): three on", x.out(0), 3);
        due("out(6): one on", x.out(6), 1);
        x.sale(0, 0);
        x.sale(7, 0);
        due("out(4): the street from the last", x.out(4), 1);
        due("out(7): the street from the first", x.out(7), 1);
        due("out(5): locked in, and sold now", x.out(5), -1);
        x.sale(6, 0);
        due("out(0): the street, by house 0", x.out(0), 4);
        due("out(6): the street, by the last", x.out(6), 3);
        due("out(8)", x.out(8), -2);
        due("out(-1)", x.out(-1), -2);

        // Only houses that a sale tells itself count, not those that go with somebody; and a sale
        // to somebody who is not there tells its house as well.
        x = street("01;01;01;11", "o0o1o2o3");
        x.sale(0, 1);
        due("whose(2, 1)", x.whose(2, 1), 1);
        due("out(2): sold with 0, but not told", x.out(2), 0);
        x.sale(2, 7);
        due("out(2): told, though to nobody", x.out(2), 1);
    }

    private static void changing() {
        promise = "21";
        SoldWithIt x = street("05;13;07;74", "o0g1l1");
        x.worth(0, 1, 4);
        x.worth(0, 2, -9);
        x.worth(1, 0, 2);
        x.worth(1, 2, 1);
        due("value(0, 0): not oneself", x.value(0, 0), 5);
        due("value(1, 0)", x.value(1, 0), 3 + 4 - 9);
        due("value(0, 1)", x.value(0, 1), 7);
        due("value(1, 1)", x.value(1, 1), 4);
        due("value(2, 1)", x.value(2, 1), 7);
        due("value(4, 0)", x.value(4, 0), -100002);
        due("value(-1, 0)", x.value(-1, 0), -100002);
        due("value(0, 3)", x.value(0, 3), -100002);
        due("value(0, -1)", x.value(0, -1), -100002);

        promise = "22";
        due("change(0, 1)", x.change(0, 1), 0);
        x.worth(0, 2, 0);
        due("change(0, 1) when both would", x.change(0, 1), 1);
        due("change(1, 0)", x.change(1, 0), 1);
        due("change(0, 2), of one owner", x.change(0, 2), 0);
        due("change(1, 2): like values are not more", x.change(1, 2), 0);
        due("change(2, 1), likewise", x.change(2, 1), 0);
        x.worth(0, 2, 1);
        due("change(1, 2)", x.change(1, 2), 1);
        due("change(0, 0)", x.change(0, 0), -2);
        due("change(0, 4)", x.change(0, 4), -2);
        due("change(4, 0)", x.change(4, 0), -2);
        due("change(-1, 0)", x.change(-1, 0), -2);
        due("change(0, -1)", x.change(0, -1), -2);
        x.sale(0, 1);
        due("change(0, 1) by owners as told", x.change(0, 1), 1);

        promise = "23";
        // An owner who is not there has values as well: house 1 is 3, with two in it, to 7.
        due("changes()", x.changes(), 2);
        x.worth(7, 0, -2);
        due("change(0, 3): 7 has 4, and would have 3", x.change(0, 3), 0);
        x.worth(7, 1, 2);
        x.worth(1, 2, -9);
        due("change(1, 3): 7 has 4, and would have 5; 1 has -6", x.change(1, 3), 1);
        due("changes()", x.changes(), 3);
        due("changes() of nothing", new SoldWithIt().changes(), 0);
    }

    private static void owningAsOneShould() {
        promise = "24";
        SoldWithIt x = street("05;13;27;34", "o-o-o-o-");
        due("should(4)", x.should(4), -2);
        due("should(-1)", x.should(-1), -2);
        due("should(0), lost", x.should(0), -11);
        due("count(8)", x.count(8), 1);
        fill(x, 0, 0, 0, 1, 2, 3);
        due("should(0), as it is", x.should(0), 0);
        fill(x, 0, 2, 3, 2, 1, 0, 99);
        due("should(0): all four, more items do not count", x.should(0), 4);
        fill(x, 0, 1, 0, 1, 2);
        due("should(0): too few items", x.should(0), -3);
        fill(x, 0, 0, 0, 1, 2, 4);
        due("should(0): not there", x.should(0), -3);
        fill(x, 0, 0, 0, 1, -1, 3);
        due("should(0): below 0", x.should(0), -3);
        typeAll(x, 0, ";44");
        due("should(0) of five houses", x.should(0), -4);
        due("should(1) of five houses, lost", x.should(1), -11);

        // 0 is in house 0 and owns all: only the buyer of it can get all at once.
        x = street("00;00;00;00", "o0o-o-");
        fill(x, 0, 0, 1, 1, 1, 1);
        due("should(0) by the chain", x.should(0), 1);
        fill(x, 0, 0, 1, 2, 1, 1);
        due("should(0): all, then one back", x.should(0), 2);
        x.law(1, 0);
        fill(x, 0, 0, 1, 1, 1, 1);
        due("should(0) without CHAIN", x.should(0), 4);
        x.law(1, 1);
        x.law(0, 0);
        due("should(0) without WITHIN", x.should(0), 4);
        x.law(0, 1);
        x.sale(0, 2);
        due("should(0): none told is done", x.should(0), 1);

        // Each is in one's own house: it can't go without all that one has.
        x = street("05;13", "o0o1");
        fill(x, 0, 0, 1, 0);
        due("should(0): two can't change", x.should(0), -1);
        x.wipe(0);
        due("should(0) without houses", x.should(0), 0);
        x.sheet(0, 0, 0);
        due("should(0) of nothing", x.should(0), 0);
        // Owners who are not there can sell, and that is all.
        x = street("75;63", "o-");
        fill(x, 0, 0, 0, 0);
        due("should(0) from absent owners", x.should(0), 2);
        fill(x, 0, 0, 7, 0);
        due("should(0) to an absent owner", x.should(0), -3);
        // One is sold again and again: that one was is forgotten behind each sale.
        x = street("00;01;12", "o0o-o-");
        fill(x, 0, 0, 2, 2, 1);
        due("should(0)", x.should(0), 1);
        // The last of all ways to own four houses.
        x = street("00;11;22;33", "o-o-o-o-o-o-o-o-");
        fill(x, 0, 0, 7, 7, 7, 7);
        due("should(0): all to 7", x.should(0), 4);
    }

    private static void dinners() {
        promise = "25";
        SoldWithIt x = street("", "o-g-l-o-");
        x.like(1, 0, -1);
        x.like(2, 0, 3);
        x.like(2, 1, -4);
        x.like(1, 3, 1);
        due("come(0, 0)", x.come(0, 0), 0);
        due("come(0, 2): 1 does not like 0", x.come(0, 2), 0);
        due("come(0, 4)", x.come(0, 4), 4);
        due("come(0, 6): 1 counts though not coming", x.come(0, 6), 0);
        due("come(0, 10): with 3, 1 comes", x.come(0, 10), 10);
        due("come(0, 254): those not there do not count", x.come(0, 254), 10);
        x.like(1, 7, -9);
        due("come(0, 138): nor what one likes of them", x.come(0, 138), 10);
        due("come(0, 1): the host", x.come(0, 1), -2);
        due("come(0, 255): the host", x.come(0, 255), -2);
        due("come(0, 256)", x.come(0, 256), -2);
        due("come(0, -2)", x.come(0, -2), -2);
        due("come(4, 0)", x.come(4, 0), -2);
        due("come(-1, 0)", x.come(-1, 0), -2);

        promise = "26";
        due("invite(0, 0)", x.invite(0, 0), 0);
        due("invite(0, 2): 3 must come along", x.invite(0, 2), 10);
        due("invite(0, 4)", x.invite(0, 4), 4);
        due("invite(0, 6)", x.invite(0, 6), -1);
        x.like(1, 2, 1);
        x.like(2, 1, 0);
        due("invite(0, 2): the least bits of two", x.invite(0, 2), 6);
        due("invite(0, 1): the host", x.invite(0, 1), -2);
        due("invite(0, 16): not there", x.invite(0, 16), -2);
        due("invite(0, -2)", x.invite(0, -2), -2);
        due("invite(0, least)", x.invite(0, LEAST), -2);
        due("invite(0, 256)", x.invite(0, 256), -2);
        due("invite(4, 0)", x.invite(4, 0), -2);
        due("invite(-1, 0)", x.invite(-1, 0), -2);
        // Fewer are ahead of less bits: 1 comes with 2 and 3 (14), or with 4 alone (18).
        x = street("", "o-o-o-o-o-");
        x.like(1, 0, -2);
        x.like(1, 2, 1);
        x.like(1, 3, 1);
        x.like(1, 4, 2);
        due("invite(0, 2): the fewest", x.invite(0, 2), 18);
        due("invite(0, 10)", x.invite(0, 10), 14);
        // The host may not be asked to be liked twice.
        x = street("", "o-o-o-");
        x.like(1, 0, 2);
        x.like(1, 2, -3);
        due("invite(0, 6)", x.invite(0, 6), -1);
        // Guest 0 counts, too.
        x.like(1, 0, -2);
        x.like(1, 2, 1);
        due("come(2, 3)", x.come(2, 3), 1);
    }

    private static void whereAllWere() {
        promise = "27";
        SoldWithIt x = street("05;13", "o0l1");
        due("fact(8, 0)", x.fact(8, 0), -2);
        due("fact(-1, 0)", x.fact(-1, 0), -2);
        due("fact(0, 8)", x.fact(0, 8), -2);
        due("fact(0, -1)", x.fact(0, -1), -2);
        for (int i = 1; i <= 8; i++) {
            due("fact(7, 7)", x.fact(7, 7), i);
        }
        due("9th fact(0, 0)", x.fact(0, 0), -4);
        due("9th fact(8, 0)", x.fact(8, 0), -2);

        promise = "28";
        due("forget()", x.forget(), 8);
        due("forget() again", x.forget(), 0);
        due("count(5)", x.count(5), 0);

        promise = "29";
        due("were(-1)", x.were(-1), 9);
        due("were(0)", x.were(0), 259);
        due("were(1): locked ones, too", x.were(1), 259);
        x.sale(0, 1);
        x.fact(0, 1);
        due("were(-1): 0 was in house 0", x.were(-1), 3);
        due("were(0)", x.were(0), 1);
        due("were(1)", x.were(1), 259);
        x.fact(1, 1);
        due("were(-1), nothing new", x.were(-1), 3);
        x.fact(0, 0);
        due("were(-1): both can't be", x.were(-1), 0);
        due("were(0)", x.were(0), 0);
        x.forget();
        x.fact(0, 0);
        due("were(0): anywhere else", x.were(0), 258);
        x.fact(2, 2);
        due("were(-1), one who is not there", x.were(-1), 0);
        x.forget();
        x.fact(0, 5);
        due("were(-1), a keeper who is not there", x.were(-1), 0);
        due("were(2)", x.were(2), -2);
        due("were(-2)", x.were(-2), -2);

        promise = "30";
        due("bed(): in no way", x.bed(), 3);
        x.forget();
        due("bed() without facts", x.bed(), 0);
        x.fact(0, 0);
        due("bed(): 0 was not in house 0", x.bed(), 1);
        x.wipe(1);
        typeAll(x, 1, "o7l1");
        due("bed(): told in no house is the street", x.bed(), 0);
        typeAll(x, 1, "o-o-");
        due("were(-1) of four", x.were(-1), 54);
        due("bed() of four", x.bed(), 0);
        typeAll(x, 1, "o-");
        due("bed() of five", x.bed(), -4);
        due("were(-1) of five", x.were(-1), -4);
        due("were(4) of five", x.were(4), -4);
        due("were(5) of five", x.were(5), -2);
        x = new SoldWithIt();
        due("were(-1) of nobody", x.were(-1), 1);
        due("bed() of nobody", x.bed(), 0);
        x.fact(0, 0);
        due("were(-1) of nobody with a fact", x.were(-1), 0);
        x = street("00;11;22;33;00;11;22;33", "o0o1o2o3");
        due("were(-1) of all rows", x.were(-1), 6561);
        due("were(3)", x.were(3), 511);
    }

    private static void sheets() {
        promise = "31";
        SoldWithIt x = new SoldWithIt();
        due("sheet(4, 0, 1)", x.sheet(4, 0, 1), -2);
        due("sheet(-1, 0, 1)", x.sheet(-1, 0, 1), -2);
        due("sheet(0, 3, 1)", x.sheet(0, 3, 1), -2);
        due("sheet(0, -1, 1)", x.sheet(0, -1, 1), -2);
        due("sheet(0, 0, 49)", x.sheet(0, 0, 49), -2);
        due("sheet(0, 0, most)", x.sheet(0, 0, MOST), -2);
        due("sheet(4, 0, -1)", x.sheet(4, 0, -1), -2);
        due("count(8)", x.count(8), 0);
        due("sheet(0, 0, -1)", x.sheet(0, 0, -1), -15);
        due("sheet(0, 0, least)", x.sheet(0, 0, LEAST), -15);
        due("count(8)", x.count(8), 5);
        due("lose(0), still lost", x.lose(0), -11);
        due("sheet(0, 0, 48)", x.sheet(0, 0, 48), 48);
        due("get(0, 0, 47)", x.get(0, 0, 47), 0);
        due("put(0, 0, 47, 5)", x.put(0, 0, 47, 5), 1);
        due("sheet(0, 0, -1) leaves it", x.sheet(0, 0, -1), -15);
        due("get(0, 0, 47)", x.get(0, 0, 47), 5);
        due("sheet(0, 0, 48)", x.sheet(0, 0, 48), 48);
        due("get(0, 0, 47) of a new row", x.get(0, 0, 47), 0);
        due("sheet(1, 2, 0)", x.sheet(1, 2, 0), 0);

        promise = "32";
        due("lose(0)", x.lose(0), 48);
        due("lose(0) again", x.lose(0), -11);
        due("lose(1)", x.lose(1), 0);
        due("lose(4)", x.lose(4), -2);
        due("lose(-1)", x.lose(-1), -2);

        promise = "33, 34";
        due("put(0, 0, 0, 1), lost", x.put(0, 0, 0, 1), -11);
        due("get(0, 0, 0), lost", x.get(0, 0, 0), LEAST);
        due("count(8)", x.count(8), 1);
        for (int form = 0; form <= 2; form++) {
            x.sheet(form, form, 3);
        }
        itemOf(x, 0, 127, 127);
        itemOf(x, 0, 128, -128);
        itemOf(x, 0, -129, 127);
        itemOf(x, 0, 511, -1);
        itemOf(x, 1, 32767, 32767);
        itemOf(x, 1, 32768, -32768);
        itemOf(x, 1, 0x12345, 0x2345);
        itemOf(x, 2, MOST, MOST);
        itemOf(x, 2, LEAST, LEAST);
        due("put(0, 1, 9, 1), cast ahead of index", x.put(0, 1, 9, 1), -13);
        due("count(8)", x.count(8), 3);
        due("put(0, 0, 3, 1)", x.put(0, 0, 3, 1), -12);
        due("count(8)", x.count(8), 2);
        due("get(1, 2, 0)", x.get(1, 2, 0), LEAST);
        due("count(8)", x.count(8), 3);
        due("get(1, 1, -1)", x.get(1, 1, -1), LEAST);
        due("count(8)", x.count(8), 2);
        due("put(0, 0, -1, 1)", x.put(0, 0, -1, 1), -12);
        due("put(0, 0, most, 1)", x.put(0, 0, MOST, 1), -12);
        due("put(3, 2, 0, 1), lost ahead of cast", x.put(3, 2, 0, 1), -11);
        due("put(4, 0, 0, 1)", x.put(4, 0, 0, 1), -2);
        due("put(-1, 0, 0, 1)", x.put(-1, 0, 0, 1), -2);
        due("put(0, 3, 0, 1)", x.put(0, 3, 0, 1), -2);
        due("put(3, -1, 0, 1), bad ahead of null", x.put(3, -1, 0, 1), -2);
        due("get(0, 0, 3)", x.get(0, 0, 3), LEAST);
        due("get(4, 0, 0)", x.get(4, 0, 0), LEAST);
        due("get(-1, 0, 0)", x.get(-1, 0, 0), LEAST);
        due("get(3, 3, 0)", x.get(3, 3, 0), LEAST);
        due("get(3, -1, 0)", x.get(3, -1, 0), LEAST);
        due("count(8): bad is no finding", x.count(8), 2);

        promise = "35";
        fill(x, 0, 0, 1, 2, 3, 4);
        fill(x, 1, 0, 9, 9);
        fill(x, 2, 1, 7, 7);
        due("copy(0, 1, 1, 0, 2)", x.copy(0, 1, 1, 0, 2), 1);
        rowIs(x, 1, 0, 2, 3);
        due("copy(0, 0, 0, 1, 3), of itself", x.copy(0, 0, 0, 1, 3), 1);
        rowIs(x, 0, 0, 1, 1, 2, 3);
        due("copy(0, 1, 0, 0, 3), of itself", x.copy(0, 1, 0, 0, 3), 1);
        rowIs(x, 0, 0, 1, 2, 3, 3);
        due("copy(0, 4, 1, 2, 0), of nothing", x.copy(0, 4, 1, 2, 0), 1);
        due("copy(0, 5, 1, 2, 0)", x.copy(0, 5, 1, 2, 0), -12);
        due("copy(0, 4, 1, 3, 0)", x.copy(0, 4, 1, 3, 0), -12);
        due("copy(0, 0, 1, 0, 3), too many for 1", x.copy(0, 0, 1, 0, 3), -12);
        due("copy(1, 0, 0, 0, 3), too many of 1", x.copy(1, 0, 0, 0, 3), -12);
        due("copy(0, -1, 1, 0, 1)", x.copy(0, -1, 1, 0, 1), -12);
        due("copy(0, 3, 1, 0, 2)", x.copy(0, 3, 1, 0, 2), -12);
        due("copy(0, 0, 1, 1, 2)", x.copy(0, 0, 1, 1, 2), -12);
        due("copy(0, 0, 1, -1, 1)", x.copy(0, 0, 1, -1, 1), -12);
        due("copy(0, 0, 1, 0, -1)", x.copy(0, 0, 1, 0, -1), -12);
        due("copy(0, 1, 1, 1, most)", x.copy(0, 1, 1, 1, MOST), -12);
        due("copy(0, most, 1, 1, 1)", x.copy(0, MOST, 1, 1, 1), -12);
        due("copy(0, 1, 1, 1, least)", x.copy(0, 1, 1, 1, LEAST), -12);
        due("count(8)", x.count(8), 2);
        due("copy(0, -1, 2, 0, 1), store ahead of index", x.copy(0, -1, 2, 0, 1), -14);
        due("count(8)", x.count(8), 4);
        due("copy(0, 0, 3, 0, 1), to a lost one", x.copy(0, 0, 3, 0, 1), -11);
        due("copy(3, 0, 0, 0, 1), of a lost one", x.copy(3, 0, 0, 0, 1), -11);
        due("copy(4, 0, 3, 0, 1)", x.copy(4, 0, 3, 0, 1), -2);
        due("copy(3, 0, 4, 0, 1)", x.copy(3, 0, 4, 0, 1), -2);
        due("copy(-1, 0, 0, 0, 1)", x.copy(-1, 0, 0, 0, 1), -2);
        due("copy(0, 0, -1, 0, 1)", x.copy(0, 0, -1, 0, 1), -2);
        rowIs(x, 0, 0, 1, 2, 3, 3);
        rowIs(x, 1, 0, 2, 3);

        promise = "36";
        x = street("05;13", "o0g0l-");
        x.sale(0, 2);
        due("write(4)", x.write(4), -2);
        due("write(-1)", x.write(-1), -2);
        due("write(0), lost", x.write(0), -11);
        fill(x, 0, 1, 9, 9, 9, 9);
        due("write(0), more items", x.write(0), 3);
        rowIs(x, 0, 1, 2, 2, 2, 9);
        fill(x, 0, 2, 9, 9);
        due("write(0), fewer items", x.write(0), 2);
        rowIs(x, 0, 2, 2, 2);
        x.undo();
        due("write(0)", x.write(0), 2);
        rowIs(x, 0, 2, 0, 1);
        x.sheet(0, 0, 0);
        due("write(0), no items", x.write(0), 0);
    }

    private static void itemOf(SoldWithIt x, int form, int v, int want) {
        due("put(" + form + ", " + form + ", 2, " + v + ")", x.put(form, form, 2, v), 1);
        due("get behind it", x.get(form, form, 2), want);
        due("get of the item ahead", x.get(form, form, 1), 0);
    }

    private static void rowIs(SoldWithIt x, int s, int form, int... items) {
        for (int i = 0; i < items.length; i++) {
            due("get(" + s + ", " + form + ", " + i + ")", x.get(s, form, i), items[i]);
        }
    }

    private static void counting() {
        promise = "37";
        SoldWithIt x = street("05;13", "l0g0o-o1");
        x.sale(0, 2);
        x.sale(1, 2);
        x.sale(7, 2);
        x.fact(0, 0);
        x.lose(0);
        int[] due = {2, 4, 5, 8, 3, 1, 3, 1, 1};
        for (int what = 0; what <= 8; what++) {
            due("count(" + what + ")", x.count(what), due[what]);
        }
        due("count(9)", x.count(9), -2);
        due("count(-1)", x.count(-1), -2);
        x.type(0, 'x');
        due("count(0) with a fault", x.count(0), 0);
        due("count(2) with a fault", x.count(2), 6);
        due("count(6) with a fault", x.count(6), 0);
        x.type(1, 'x');
        due("count(1) with a fault", x.count(1), 0);
        due("count(3) with a fault", x.count(3), 9);
        due("count(7) with a fault", x.count(7), 0);
    }

    private static void digesting() {
        promise = "38";
        // Nothing told: count() 0 to 7 are 0, both faults -1, changes() 0.
        due("digest() of nothing", new SoldWithIt().digest(),
            join(0, 0, 0, 0, 0, 0, 0, 0, -1, -1, 0));
        SoldWithIt x = street("05;13", "o0l1");
        x.worth(0, 1, 4);
        x.like(1, 0, -1);
        x.sale(0, 1);
        x.fact(0, 1);
        x.read(3);
        due("digest()", x.digest(), join(
            2, 2, 5, 4, 1, 1, 1, 1,
            -1, -1,
            0, 5, 1, 1, 5, 5,
            1, 3, 2, 1, 7, 3,
            0, 0, 1, 1, 1, 0, 1, 0,
            2, 1, 2, 1, 0, 8, 0, 1,
            1,
            1));
        x.type(1, 'o');
        due("digest() with a fault", x.digest(), join(
            2, 0, 5, 5, 1, 1, 0, 0,
            -1, 5,
            0, 5, 0, 0,
            1, 3, 0, 1,
            0,
            0));
    }

    private static long join(long... values) {
        long h = 17;
        for (long v : values) {
            h = 31 * h + v;
        }
        return h;
    }
}
