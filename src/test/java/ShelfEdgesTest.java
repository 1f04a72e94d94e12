/** The edges of part III, promises 33 to 39. Each test bears the sentence that it is about. */
public final class ShelfEdgesTest {
    private static final Check CHECK = new Check();
    private static final int MIN = Integer.MIN_VALUE;
    private static final int MAX = Integer.MAX_VALUE;

    public static void main(String[] args) {
        shelvesAtFirst();
        shelvesLeastAndMost();
        keepRanges();
        keepNothing();
        rowSizes();
        rowAtFirst();
        rowBeforeSizeBelow0();
        lowestBitsOfBytes();
        lowestBitsOfShorts();
        lowestBitsOfInts();
        putPlaces();
        elementThrows();
        copySizes();
        copyPlaces();
        copyWithinOne();
        copyOfOneSort();
        copyOrderOfRefusals();
        costs();
        failures();
        costAndTossRefusals();
        CHECK.end("ShelfEdgesTest");
    }

    private static void due(String call, long got, long want) {
        CHECK.due(call, got, want);
    }

    /** "SHELVES 0 .. 7 each hold nothing (at first)". */
    private static void shelvesAtFirst() {
        ServesWhatOneDreamt x = new ServesWhatOneDreamt();
        for (int d = 0; d < 8; d++) {
            due("inn(" + d + ")", x.inn(d), -11);
            due("comes(" + d + ", 0)", x.comes(d, 0), -11);
            due("forged(" + d + ")", x.forged(d), -11);
            due("judge(" + d + ")", x.judge(d), -11);
            due("put(" + d + ", 0, 0)", x.put(d, 0, 0), -11);
            due("element(" + d + ", 0)", Check.element(x, d, 0), Check.ILLEGAL_STATE);
            due("copy of " + d, x.copy(d, 0, d, 0, 0), -11);
            due("cost(" + d + ")", x.cost(d), -11);
            due("toss(" + d + ")", x.toss(d), -11);
        }
    }

    /** Each SHELF holds its own; there is none below 0 and none above 7. */
    private static void shelvesLeastAndMost() {
        ServesWhatOneDreamt x = new ServesWhatOneDreamt();
        for (int d = 0; d < 8; d++) {
            due("keep on " + d, x.keep(d, 1, 2, d), 0);
        }
        for (int d = 0; d < 8; d++) {
            due("held on " + d, x.cost(d), 3 + d);
        }
        for (int d = 0; d < 8; d++) {
            due("a row on " + d, x.row(d, 2, 1), 0);
            due("put on " + d, x.put(d, 0, 100 + d), 0);
        }
        for (int d = 0; d < 8; d++) {
            due("element on " + d, Check.element(x, d, 0), 100 + d);
        }
        for (int d : new int[] {-1, 8, MIN, MAX}) {
            due("keep on " + d, x.keep(d, 1, 0, 0), -1);
            due("nothing on " + d, x.keep(d, 0, 0, 0), -1);
            due("a row on " + d, x.row(d, 0, 1), -1);
            due("put on " + d, x.put(d, 0, 0), -1);
            due("element on " + d, Check.element(x, d, 0), Check.ILLEGAL_ARGUMENT);
            due("copy from " + d, x.copy(d, 0, 0, 0, 0), -1);
            due("copy to " + d, x.copy(0, 0, d, 0, 0), -1);
            due("cost on " + d, x.cost(d), -1);
            due("toss on " + d, x.toss(d), -1);
        }
    }

    /** "what = 0 nothing; 1 a KIND of GUEST of KIND k with a FIGURE: 0. -1." */
    private static void keepRanges() {
        ServesWhatOneDreamt x = new ServesWhatOneDreamt();
        due("kind 0, figure 0", x.keep(0, 1, 0, 0), 0);
        due("kind 7, figure 9", x.keep(0, 1, 7, 9), 0);
        due("kind 0, figure 9", x.keep(0, 1, 0, 9), 0);
        due("kind 7, figure 0", x.keep(0, 1, 7, 0), 0);
        x.keep(0, 1, 2, 5);
        for (int beyond : new int[] {-1, MIN, MAX}) {
            due("what " + beyond, x.keep(0, beyond, 0, 0), -1);
            due("kind " + beyond, x.keep(0, 1, beyond, 0), -1);
            due("figure " + beyond, x.keep(0, 1, 0, beyond), -1);
        }
        due("what 2", x.keep(0, 2, 0, 0), -1);
        due("kind 8", x.keep(0, 1, 8, 0), -1);
        due("figure 10", x.keep(0, 1, 0, 10), -1);
        due("it is held still", x.cost(0), 8);
        due("it is held still", x.toss(0), 105);
    }

    /** "what = 0 nothing": in place of whatever was held, and where nothing was. */
    private static void keepNothing() {
        ServesWhatOneDreamt x = new ServesWhatOneDreamt();
        due("nothing where nothing was", x.keep(0, 0, 0, 0), 0);
        due("nothing", x.cost(0), -11);
        x.keep(0, 1, 0, 3);
        due("nothing for a guest", x.keep(0, 0, 0, 0), 0);
        due("nothing", x.cost(0), -11);
        due("nothing", x.toss(0), -11);
        x.row(0, 0, 2);
        due("nothing for a row", x.keep(0, 0, 0, 0), 0);
        due("nothing", x.put(0, 0, 0), -11);
        due("nothing", Check.element(x, 0, 0), Check.ILLEGAL_STATE);
        x.row(0, 0, 2);
        due("a guest for a row", x.keep(0, 1, 0, 3), 0);
        due("no row", x.put(0, 0, 0), -12);
        due("no row", Check.element(x, 0, 0), Check.ILLEGAL_STATE);
        due("a guest", x.toss(0), 3);
    }

    /** "A ROW has a SORT (0 bytes, 1 shorts, 2 ints) and 0 .. 100 elements", "-1 (n above 100); -14". */
    private static void rowSizes() {
        for (int sort = 0; sort < 3; sort++) {
            ServesWhatOneDreamt x = new ServesWhatOneDreamt();
            due("0 elements", x.row(0, sort, 0), 0);
            due("no place 0", x.put(0, 0, 1), -13);
            due("no place 0", Check.element(x, 0, 0), Check.ILLEGAL_STATE);
            due("1 element", x.row(0, sort, 1), 0);
            due("place 0", x.put(0, 0, 1), 0);
            due("no place 1", x.put(0, 1, 1), -13);
            due("99 elements", x.row(0, sort, 99), 0);
            due("place 98", x.put(0, 98, 1), 0);
            due("no place 99", x.put(0, 99, 1), -13);
            due("no place 99", Check.element(x, 0, 99), Check.ILLEGAL_STATE);
            due("100 elements", x.row(0, sort, 100), 0);
            due("place 99", x.put(0, 99, 1), 0);
            due("place 99", Check.element(x, 0, 99), 1);
            due("no place 100", x.put(0, 100, 1), -13);
            due("no place 100", Check.element(x, 0, 100), Check.ILLEGAL_STATE);
            due("101 elements", x.row(0, sort, 101), -1);
            due("very many elements", x.row(0, sort, MAX), -1);
            due("-1 elements", x.row(0, sort, -1), -14);
            due("least elements", x.row(0, sort, MIN), -14);
            due("the 100 are there still", Check.element(x, 0, 99), 1);
        }
        ServesWhatOneDreamt x = new ServesWhatOneDreamt();
        x.keep(0, 1, 0, 4);
        for (int sort : new int[] {-1, 3, MIN, MAX}) {
            due("sort " + sort, x.row(0, sort, 1), -1);
        }
        due("the guest is there still", x.toss(0), 4);
    }

    /** "elements, 0 at first": also where another ROW was. */
    private static void rowAtFirst() {
        ServesWhatOneDreamt x = new ServesWhatOneDreamt();
        x.row(0, 2, 100);
        for (int i = 0; i < 100; i++) {
            x.put(0, i, -1);
        }
        x.row(0, 2, 50);
        for (int i = 0; i < 50; i++) {
            due("element " + i + " at first", Check.element(x, 0, i), 0);
        }
        x.row(0, 2, 100);
        for (int i = 0; i < 100; i++) {
            due("element " + i + " at first", Check.element(x, 0, i), 0);
        }
        x.put(0, 0, 7);
        x.keep(0, 0, 0, 0);
        x.row(0, 2, 1);
        due("behind nothing", Check.element(x, 0, 0), 0);
        x.put(0, 0, 7);
        x.keep(0, 1, 0, 0);
        x.row(0, 1, 1);
        due("behind a guest", Check.element(x, 0, 0), 0);
    }

    /** "-1 (n above 100); -14": where both hold, -1. */
    private static void rowBeforeSizeBelow0() {
        ServesWhatOneDreamt x = new ServesWhatOneDreamt();
        due("no shelf", x.row(8, 0, -1), -1);
        due("no shelf", x.row(-1, 0, MIN), -1);
        due("no sort", x.row(0, 3, -1), -1);
        due("no sort", x.row(0, -1, MIN), -1);
        due("nothing came", x.put(0, 0, 0), -11);
    }

    private static void keeps(int sort, int put, long want) {
        ServesWhatOneDreamt x = new ServesWhatOneDreamt();
        x.row(0, sort, 3);
        due("put " + put, x.put(0, 1, put), 0);
        due(put + " in sort " + sort, Check.element(x, 0, 1), want);
        due("the one ahead of it", Check.element(x, 0, 0), 0);
        due("the one behind it", Check.element(x, 0, 2), 0);
    }

    /** "what is put in keeps its lowest bits": 8 of them. */
    private static void lowestBitsOfBytes() {
        keeps(0, 0, 0);
        keeps(0, -1, -1);
        keeps(0, 127, 127);
        keeps(0, 128, -128);
        keeps(0, 255, -1);
        keeps(0, 256, 0);
        keeps(0, -128, -128);
        keeps(0, -129, 127);
        keeps(0, -256, 0);
        keeps(0, 32767, -1);
        keeps(0, 32768, 0);
        keeps(0, MAX, -1);
        keeps(0, MIN, 0);
    }

    /** "what is put in keeps its lowest bits": 16 of them. */
    private static void lowestBitsOfShorts() {
        keeps(1, 0, 0);
        keeps(1, -1, -1);
        keeps(1, 128, 128);
        keeps(1, 255, 255);
        keeps(1, -129, -129);
        keeps(1, 32767, 32767);
        keeps(1, 32768, -32768);
        keeps(1, 65535, -1);
        keeps(1, 65536, 0);
        keeps(1, -32768, -32768);
        keeps(1, -32769, 32767);
        keeps(1, MAX, -1);
        keeps(1, MIN, 0);
    }

    /** "what is put in keeps its lowest bits": all of them. */
    private static void lowestBitsOfInts() {
        keeps(2, 0, 0);
        keeps(2, -1, -1);
        keeps(2, 32768, 32768);
        keeps(2, -32769, -32769);
        keeps(2, 65536, 65536);
        keeps(2, MAX, MAX);
        keeps(2, MIN, MIN);
    }

    /** "Element i of the ROW becomes v: 0. -1, -11, -12, -13." */
    private static void putPlaces() {
        ServesWhatOneDreamt x = new ServesWhatOneDreamt();
        due("no shelf, no place", x.put(8, -1, 0), -1);
        due("nothing, no place", x.put(0, -1, 0), -11);
        x.keep(0, 1, 0, 0);
        due("a guest, no place", x.put(0, -1, 0), -12);
        Check.write(x, 0, 2, 4, 5, 6);
        due("the first", x.put(0, 0, 1), 0);
        due("the last", x.put(0, 2, 3), 0);
        for (int i : new int[] {-1, 3, 99, 100, MIN, MAX}) {
            due("place " + i, x.put(0, i, 9), -13);
            due("place " + i, Check.element(x, 0, i), Check.ILLEGAL_STATE);
        }
        due("the first", Check.element(x, 0, 0), 1);
        due("the one between", Check.element(x, 0, 1), 5);
        due("the last", Check.element(x, 0, 2), 3);
    }

    /** "IllegalArgumentException: no such SHELF; IllegalStateException: no ROW, no such place." */
    private static void elementThrows() {
        ServesWhatOneDreamt x = new ServesWhatOneDreamt();
        for (int i : new int[] {0, -1, 100, MIN, MAX}) {
            due("no shelf 8, place " + i, Check.element(x, 8, i), Check.ILLEGAL_ARGUMENT);
            due("no shelf -1, place " + i, Check.element(x, -1, i), Check.ILLEGAL_ARGUMENT);
            due("nothing, place " + i, Check.element(x, 0, i), Check.ILLEGAL_STATE);
        }
        x.keep(7, 1, 7, 9);
        due("a guest", Check.element(x, 7, 0), Check.ILLEGAL_STATE);
        x.row(7, 0, 0);
        due("an empty row", Check.element(x, 7, 0), Check.ILLEGAL_STATE);
        x.row(7, 0, 1);
        due("the first and last", Check.element(x, 7, 0), 0);
    }

    private static void elements(String what, ServesWhatOneDreamt x, int d, long... wanted) {
        for (int i = 0; i < wanted.length; i++) {
            due(what + ", element " + i, Check.element(x, d, i), wanted[i]);
        }
        due(what + ", no more", Check.element(x, d, wanted.length), Check.ILLEGAL_STATE);
    }

    /** "n elements .. come ..: n": none, some, all. */
    private static void copySizes() {
        ServesWhatOneDreamt x = new ServesWhatOneDreamt();
        Check.write(x, 0, 1, 1, 2, 3);
        Check.write(x, 1, 1, 7, 8, 9);
        due("none", x.copy(0, 0, 1, 0, 0), 0);
        elements("none", x, 1, 7, 8, 9);
        due("one", x.copy(0, 2, 1, 0, 1), 1);
        elements("one", x, 1, 3, 8, 9);
        due("all", x.copy(0, 0, 1, 0, 3), 3);
        elements("all", x, 1, 1, 2, 3);
        elements("from it", x, 0, 1, 2, 3);
        due("4", x.copy(0, 0, 1, 0, 4), -13);
        due("-1", x.copy(0, 0, 1, 0, -1), -13);
        due("-1, from the end", x.copy(0, 3, 1, 3, -1), -13);
        due("least", x.copy(0, 0, 1, 0, MIN), -13);
        due("greatest", x.copy(0, 0, 1, 0, MAX), -13);
        x.row(2, 2, 100);
        x.put(2, 0, 5);
        x.put(2, 99, 6);
        x.row(3, 2, 100);
        due("100", x.copy(2, 0, 3, 0, 100), 100);
        due("the first of 100", Check.element(x, 3, 0), 5);
        due("the last of 100", Check.element(x, 3, 99), 6);
        due("101", x.copy(2, 0, 3, 0, 101), -13);
        x.row(4, 2, 0);
        due("none of an empty row", x.copy(4, 0, 3, 100, 0), 0);
        due("none to an empty row", x.copy(3, 100, 4, 0, 0), 0);
        due("one to an empty row", x.copy(3, 0, 4, 0, 1), -13);
        due("one of an empty row", x.copy(4, 0, 3, 0, 1), -13);
    }

    /** "-13 a place that isn't there (a number or a size that isn't as told, too)". */
    private static void copyPlaces() {
        ServesWhatOneDreamt x = new ServesWhatOneDreamt();
        Check.write(x, 0, 0, 1, 2, 3, 4);
        Check.write(x, 1, 0, 7, 8);
        due("the last one of each", x.copy(0, 3, 1, 1, 1), 1);
        elements("the last", x, 1, 7, 4);
        due("one behind the last", x.copy(0, 4, 1, 0, 1), -13);
        due("to one behind the last", x.copy(0, 0, 1, 2, 1), -13);
        due("2 from the last on", x.copy(0, 3, 1, 0, 2), -13);
        due("2 to the last on", x.copy(0, 0, 1, 1, 2), -13);
        due("none from the end to the end", x.copy(0, 4, 1, 2, 0), 0);
        due("none from beyond the end", x.copy(0, 5, 1, 2, 0), -13);
        due("none to beyond the end", x.copy(0, 4, 1, 3, 0), -13);
        for (int place : new int[] {-1, MIN, MAX}) {
            for (int n : new int[] {0, 1, 2, MAX, MIN}) {
                due("from " + place + ", " + n, x.copy(0, place, 1, 0, n), -13);
                due("to " + place + ", " + n, x.copy(0, 0, 1, place, n), -13);
            }
        }
        due("a size that wraps around", x.copy(0, 1, 1, 1, MAX), -13);
        due("a sum that wraps around to 0", x.copy(0, MIN, 1, MIN, MIN), -13);
        elements("as it was", x, 1, 7, 4);
    }

    /** Within one ROW what comes is what was there before. */
    private static void copyWithinOne() {
        ServesWhatOneDreamt x = new ServesWhatOneDreamt();
        Check.write(x, 5, 1, 1, 2, 3, 4);
        due("by one on", x.copy(5, 0, 5, 1, 3), 3);
        elements("by one on", x, 5, 1, 1, 2, 3);
        due("by one back", x.copy(5, 1, 5, 0, 3), 3);
        elements("by one back", x, 5, 1, 2, 3, 3);
        due("to where it is", x.copy(5, 0, 5, 0, 4), 4);
        elements("to where it is", x, 5, 1, 2, 3, 3);
        due("too far", x.copy(5, 0, 5, 1, 4), -13);
    }

    /** "-12 (no ROWS of one SORT)". */
    private static void copyOfOneSort() {
        ServesWhatOneDreamt x = new ServesWhatOneDreamt();
        for (int sort = 0; sort < 3; sort++) {
            Check.write(x, sort, sort, 1, 2);
            Check.write(x, 4 + sort, sort, 3, 4);
        }
        for (int from = 0; from < 3; from++) {
            for (int to = 0; to < 3; to++) {
                due("sort " + from + " to sort " + to, x.copy(from, 0, 4 + to, 0, 1), from == to ? 1 : -12);
                due("none, sort " + from + " to sort " + to, x.copy(from, 0, 4 + to, 0, 0), from == to ? 0 : -12);
            }
        }
        for (int sort = 0; sort < 3; sort++) {
            elements("of one sort", x, 4 + sort, 1, 4);
        }
    }

    /** "-1, -11 (either), -12 (no ROWS of one SORT), -13": the first of several. */
    private static void copyOrderOfRefusals() {
        ServesWhatOneDreamt x = new ServesWhatOneDreamt();
        x.row(0, 0, 2);
        x.row(1, 1, 2);
        x.keep(2, 1, 0, 0);
        due("no shelf, nothing", x.copy(8, 0, 3, 0, 0), -1);
        due("nothing, no shelf", x.copy(3, 0, 8, 0, 0), -1);
        due("no shelf, a guest", x.copy(-1, 0, 2, 0, 0), -1);
        due("a guest, no shelf", x.copy(2, 0, -1, 0, 0), -1);
        due("no shelf, no place", x.copy(0, -1, 8, -1, -1), -1);
        due("nothing, a guest", x.copy(3, 0, 2, 0, 0), -11);
        due("a guest, nothing", x.copy(2, 0, 3, 0, 0), -11);
        due("nothing twice", x.copy(3, 0, 4, 0, 0), -11);
        due("nothing, no place", x.copy(0, -1, 3, 0, 0), -11);
        due("no place, nothing", x.copy(3, -1, 0, 5, -1), -11);
        due("a guest, no place", x.copy(2, 0, 0, 5, 0), -12);
        due("no place, a guest", x.copy(0, 5, 2, 0, 0), -12);
        due("guests", x.copy(2, 0, 2, 0, 0), -12);
        due("other sorts, no place", x.copy(0, 5, 1, 0, 1), -12);
        due("other sorts, a size below 0", x.copy(0, 0, 1, 0, -1), -12);
    }

    /** "COST ..: TRAVELLER FIGURE less than a COOK (0 at least)", "CHILD half of a BRIDE's, cut". */
    private static void costs() {
        int[][] wanted = {
            {3, 3, 3, 3, 3, 3, 3, 3, 3, 3},
            {1, 1, 1, 1, 1, 1, 1, 1, 1, 1},
            {3, 4, 5, 6, 7, 8, 9, 10, 11, 12},
            {6, 6, 6, 6, 6, 6, 6, 6, 6, 6},
            {0, 0, 0, 0, 0, 0, 0, 0, 0, 0},
            {1, 2, 2, 3, 3, 4, 4, 5, 5, 6},
            {0, 0, 0, 0, 0, 0, 0, 0, 0, 0},
            {6, 5, 4, 3, 2, 1, 0, 0, 0, 0},
        };
        ServesWhatOneDreamt x = new ServesWhatOneDreamt();
        for (int k = 0; k < 8; k++) {
            for (int figure = 0; figure < 10; figure++) {
                x.keep(7, 1, k, figure);
                due("cost of kind " + k + ", figure " + figure, x.cost(7), wanted[k][figure]);
            }
        }
    }

    /** "its FIGURE; of BRIDES 100 more ..; of TRAVELLERS 200 and what they COST ..; -15: .. any with FIGURE 0, have none". */
    private static void failures() {
        int no = -15;
        int[][] wanted = {
            {no, 1, 2, 3, 4, 5, 6, 7, 8, 9},
            {no, no, no, no, no, no, no, no, no, no},
            {no, 101, 102, 103, 104, 105, 106, 107, 108, 109},
            {no, 1, 2, 3, 4, 5, 6, 7, 8, 9},
            {no, no, no, no, no, no, no, no, no, no},
            {no, 101, 102, 103, 104, 105, 106, 107, 108, 109},
            {no, no, no, no, no, no, no, no, no, no},
            {no, 205, 204, 203, 202, 201, 200, 200, 200, 200},
        };
        ServesWhatOneDreamt x = new ServesWhatOneDreamt();
        for (int k = 0; k < 8; k++) {
            for (int figure = 0; figure < 10; figure++) {
                x.keep(7, 1, k, figure);
                due("toss of kind " + k + ", figure " + figure, x.toss(7), wanted[k][figure]);
                due("it is held still", x.toss(7), wanted[k][figure]);
            }
        }
    }

    /** "-1, -11, -12 (a ROW)". */
    private static void costAndTossRefusals() {
        ServesWhatOneDreamt x = new ServesWhatOneDreamt();
        due("cost: nothing", x.cost(0), -11);
        due("toss: nothing", x.toss(0), -11);
        for (int sort = 0; sort < 3; sort++) {
            x.row(0, sort, 0);
            due("cost: a row", x.cost(0), -12);
            due("toss: a row", x.toss(0), -12);
        }
        x.keep(0, 1, 0, 0);
        x.row(0, 0, 1);
        due("cost: a row where a guest was", x.cost(0), -12);
        due("toss: a row where a guest was", x.toss(0), -12);
    }
}
