/** Promises 33 to 39: shelves. */
public final class ShelfPromisesTest {
    private static final Check CHECK = new Check();

    public static void main(String[] args) {
        promise33();
        promise34();
        promise35();
        promise36();
        promise37();
        promise37Overlap();
        promise38And39();
        CHECK.end("ShelfPromisesTest");
    }

    private static void due(String call, long got, long want) {
        CHECK.due(call, got, want);
    }

    private static void promise33() {
        ServesWhatOneDreamt x = new ServesWhatOneDreamt();
        due("a kind", x.keep(0, 1, 7, 9), 0);
        due("a kind", x.keep(7, 1, 0, 0), 0);
        due("it is held", x.cost(7), 3);
        due("nothing", x.keep(7, 0, 0, 0), 0);
        due("nothing is held", x.cost(7), -11);
        due("the other stays", x.comes(0, 1), 0);
        due("its kind", x.guest(0, 0), 7);
        due("its figure", x.guest(0, 1), 9);
        due("no shelf", x.keep(8, 1, 0, 0), -1);
        due("no shelf", x.keep(-1, 0, 0, 0), -1);
        due("no what", x.keep(0, 2, 0, 0), -1);
        due("no what", x.keep(0, -1, 0, 0), -1);
        due("no kind", x.keep(0, 1, 8, 0), -1);
        due("no kind", x.keep(0, 1, -1, 0), -1);
        due("no figure", x.keep(0, 1, 0, 10), -1);
        due("no figure", x.keep(0, 1, 0, -1), -1);
        due("refused, so unchanged", x.cost(0), 0);
        x.row(0, 0, 3);
        due("a kind in place of a row", x.keep(0, 1, 1, 0), 0);
        due("no row any more", x.put(0, 0, 1), -12);
        x.row(0, 0, 3);
        due("nothing in place of a row", x.keep(0, 0, 0, 0), 0);
        due("nothing", x.put(0, 0, 1), -11);
    }

    private static void promise34() {
        ServesWhatOneDreamt x = new ServesWhatOneDreamt();
        due("row(0, 0, 0)", x.row(0, 0, 0), 0);
        due("no element", x.put(0, 0, 1), -13);
        due("row(0, 2, 100)", x.row(0, 2, 100), 0);
        due("its last", x.put(0, 99, 7), 0);
        due("0 at first", Check.element(x, 0, 98), 0);
        due("row(0, 1, 100)", x.row(0, 1, 100), 0);
        due("0 at first, again", Check.element(x, 0, 99), 0);
        x.put(0, 3, 9);
        x.put(0, 0, 9);
        due("row(0, 1, 2)", x.row(0, 1, 2), 0);
        due("0 at first, again", Check.element(x, 0, 0), 0);
        due("row(0, 1, 5)", x.row(0, 1, 5), 0);
        due("0 at first, again", Check.element(x, 0, 3), 0);
        due("row(8, 0, 1)", x.row(8, 0, 1), -1);
        due("row(-1, 0, 1)", x.row(-1, 0, 1), -1);
        due("row(0, 3, 1)", x.row(0, 3, 1), -1);
        due("row(0, -1, 1)", x.row(0, -1, 1), -1);
        due("row(0, 0, 101)", x.row(0, 0, 101), -1);
        due("row(0, 0, -1)", x.row(0, 0, -1), -14);
        due("row(0, 0, least)", x.row(0, 0, Integer.MIN_VALUE), -14);
        due("no shelf, before a size below 0", x.row(8, 0, -1), -1);
        due("no sort, before a size below 0", x.row(0, 3, -1), -1);
        due("refused, so unchanged", Check.element(x, 0, 4), 0);
        x.keep(0, 1, 0, 0);
        due("a row in place of a kind", x.row(0, 0, 1), 0);
        due("no kind any more", x.cost(0), -12);
    }

    private static void kept(int sort, int put, long wanted) {
        ServesWhatOneDreamt x = new ServesWhatOneDreamt();
        x.row(5, sort, 3);
        due("put(5, 1, " + put + ")", x.put(5, 1, put), 0);
        due("element of " + put + " in sort " + sort, Check.element(x, 5, 1), wanted);
        due("the one before", Check.element(x, 5, 0), 0);
        due("the one behind", Check.element(x, 5, 2), 0);
    }

    private static void promise35() {
        kept(0, 127, 127);
        kept(0, 128, -128);
        kept(0, 256, 0);
        kept(0, -129, 127);
        kept(0, -1, -1);
        kept(1, 128, 128);
        kept(1, 32767, 32767);
        kept(1, 32768, -32768);
        kept(1, 70000, 4464);
        kept(1, -32769, 32767);
        kept(2, Integer.MIN_VALUE, Integer.MIN_VALUE);
        kept(2, Integer.MAX_VALUE, Integer.MAX_VALUE);
        ServesWhatOneDreamt x = new ServesWhatOneDreamt();
        due("no shelf", x.put(8, 0, 0), -1);
        due("no shelf", x.put(-1, 0, 0), -1);
        due("nothing", x.put(0, 0, 0), -11);
        x.keep(0, 1, 0, 0);
        due("a kind", x.put(0, 0, 0), -12);
        x.row(0, 0, 3);
        due("place 3", x.put(0, 3, 0), -13);
        due("place -1", x.put(0, -1, 0), -13);
        due("place least", x.put(0, Integer.MIN_VALUE, 0), -13);
        due("place greatest", x.put(0, Integer.MAX_VALUE, 0), -13);
    }

    private static void promise36() {
        ServesWhatOneDreamt x = new ServesWhatOneDreamt();
        due("no shelf", Check.element(x, 8, 0), Check.ILLEGAL_ARGUMENT);
        due("no shelf", Check.element(x, -1, 0), Check.ILLEGAL_ARGUMENT);
        due("no shelf, before no place", Check.element(x, 8, -1), Check.ILLEGAL_ARGUMENT);
        due("nothing", Check.element(x, 0, 0), Check.ILLEGAL_STATE);
        x.keep(0, 1, 0, 0);
        due("a kind", Check.element(x, 0, 0), Check.ILLEGAL_STATE);
        Check.write(x, 0, 2, 4, 5, 6);
        due("the first", Check.element(x, 0, 0), 4);
        due("the last", Check.element(x, 0, 2), 6);
        due("place 3", Check.element(x, 0, 3), Check.ILLEGAL_STATE);
        due("place -1", Check.element(x, 0, -1), Check.ILLEGAL_STATE);
        due("place greatest", Check.element(x, 0, Integer.MAX_VALUE), Check.ILLEGAL_STATE);
    }

    private static void elements(String what, ServesWhatOneDreamt x, int d, long... wanted) {
        for (int i = 0; i < wanted.length; i++) {
            due(what + ", element " + i, Check.element(x, d, i), wanted[i]);
        }
    }

    private static void promise37() {
        ServesWhatOneDreamt x = new ServesWhatOneDreamt();
        Check.write(x, 0, 1, 1, 2, 3, 4);
        Check.write(x, 1, 1, 5, 6, 7);
        due("copy(0, 1, 1, 0, 2)", x.copy(0, 1, 1, 0, 2), 2);
        elements("from", x, 0, 1, 2, 3, 4);
        elements("to", x, 1, 2, 3, 7);
        due("none of it", x.copy(0, 4, 1, 3, 0), 0);
        due("from too far", x.copy(0, 5, 1, 3, 0), -13);
        due("to too far", x.copy(0, 4, 1, 4, 0), -13);
        due("from below 0", x.copy(0, -1, 1, 0, 1), -13);
        due("to below 0", x.copy(0, 0, 1, -1, 1), -13);
        due("a size below 0", x.copy(0, 1, 1, 1, -1), -13);
        due("more than there are", x.copy(0, 2, 1, 0, 3), -13);
        due("more than there is room for", x.copy(0, 0, 1, 0, 4), -13);
        due("a size that wraps around", x.copy(0, 1, 1, 1, Integer.MAX_VALUE), -13);
        due("a place that wraps around", x.copy(0, Integer.MAX_VALUE, 1, 1, Integer.MAX_VALUE), -13);
        elements("refused, so unchanged", x, 1, 2, 3, 7);
        due("no shelf", x.copy(8, 0, 1, 0, 1), -1);
        due("no shelf", x.copy(0, 0, 8, 0, 1), -1);
        due("no shelf", x.copy(-1, 0, 1, 0, 1), -1);
        due("no shelf, before nothing", x.copy(2, 0, -1, 0, 1), -1);
        due("nothing", x.copy(0, 0, 2, 0, 1), -11);
        due("nothing", x.copy(2, 0, 0, 0, 1), -11);
        x.keep(3, 1, 0, 0);
        due("nothing, before a kind", x.copy(3, 0, 2, 0, 1), -11);
        due("a kind", x.copy(3, 0, 0, 0, 1), -12);
        due("a kind", x.copy(0, 0, 3, 0, 1), -12);
        due("two kinds", x.copy(3, 0, 3, 0, 0), -12);
        x.row(3, 1, 4);
        x.keep(3, 1, 0, 0);
        due("a kind where a row was", x.copy(3, 0, 0, 0, 1), -12);
        due("a kind where a row was", x.copy(0, 0, 3, 0, 1), -12);
        x.row(3, 0, 4);
        due("another sort", x.copy(0, 0, 3, 0, 1), -12);
        due("another sort, before no place", x.copy(0, 9, 3, 0, 1), -12);
    }

    private static void promise37Overlap() {
        ServesWhatOneDreamt x = new ServesWhatOneDreamt();
        Check.write(x, 0, 2, 1, 2, 3, 4, 5);
        due("forward within one", x.copy(0, 0, 0, 1, 4), 4);
        elements("forward", x, 0, 1, 1, 2, 3, 4);
        due("back within one", x.copy(0, 1, 0, 0, 4), 4);
        elements("back", x, 0, 1, 2, 3, 4, 4);
    }

    private static void promise38And39() {
        int[][] costs = {{3, 3, 3}, {1, 1, 1}, {3, 4, 12}, {6, 6, 6}, {0, 0, 0}, {1, 2, 6}, {0, 0, 0}, {6, 5, 0}};
        int[][] tosses = {{-15, 1, 9}, {-15, -15, -15}, {-15, 101, 109}, {-15, 1, 9}, {-15, -15, -15},
            {-15, 101, 109}, {-15, -15, -15}, {-15, 205, 200}};
        int[] figures = {0, 1, 9};
        ServesWhatOneDreamt x = new ServesWhatOneDreamt();
        for (int k = 0; k < 8; k++) {
            for (int f = 0; f < 3; f++) {
                x.keep(4, 1, k, figures[f]);
                due("cost of kind " + k + ", figure " + figures[f], x.cost(4), costs[k][f]);
                due("toss of kind " + k + ", figure " + figures[f], x.toss(4), tosses[k][f]);
            }
        }
        due("cost: no shelf", x.cost(8), -1);
        due("cost: no shelf", x.cost(-1), -1);
        due("toss: no shelf", x.toss(8), -1);
        due("toss: no shelf", x.toss(-1), -1);
        due("cost: nothing", x.cost(0), -11);
        due("toss: nothing", x.toss(0), -11);
        x.row(0, 0, 1);
        due("cost: a row", x.cost(0), -12);
        due("toss: a row", x.toss(0), -12);
    }
}
