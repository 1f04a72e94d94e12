import java.util.ArrayList;
import java.util.List;

/**
 * "REFUSALS (answers; nothing changes)", "Answers of several REFUSALS are the first one as they are told at the call":
 * for each call what is just in range and what is just beyond, which REFUSAL comes first, and that nothing changes.
 */
public final class RefusalEdgesTest {
    private static final Check CHECK = new Check();
    private static final int MIN = Integer.MIN_VALUE;
    private static final int MAX = Integer.MAX_VALUE;
    private static final long LONG_REFUSED = 1000000001L;
    private static final int[] SHELF = {0, 7};
    private static final int[] PLATE = {0, 9};
    private static final int[] GUEST = {0, 2};
    private static final int[] WHILE = {0, 60};
    private static final int[] YES_NO = {0, 1};
    private static final int[] ANY = {MIN, MAX};

    /** A call of the face, with its arguments in a row. */
    private interface Call {
        long of(ServesWhatOneDreamt x, int[] a);
    }

    public static void main(String[] args) {
        innAsTold();
        nightsOn();
        whatIsBest();
        whatKind();
        slatesAndYears();
        shelves();
        severalOfComes();
        severalOfHealsAndNights();
        severalOfSlates();
        severalOfTwo();
        severalOfShelves();
        elsewhere();
        looksChangeNothing();
        CHECK.end("RefusalEdgesTest");
    }

    /**
     * Three guests, the third GONE, in night 3; rows of each sort on shelves 0 to 2, guests on 3 and 4, nothing on 5
     * and 6; an image that is another than what is now.
     */
    private static ServesWhatOneDreamt some() {
        ServesWhatOneDreamt x = Check.inn("g004;g115;g300;h204;e07;l000;d01;");
        x.image();
        Check.tell(x, "w03;h177;l642;d02;");
        Check.write(x, 0, 0, 1, 2, 3);
        Check.write(x, 1, 1, 4, 5);
        Check.write(x, 2, 2, 6, 7, 8, 9);
        x.keep(3, 1, 5, 4);
        x.keep(4, 1, 7, 2);
        Check.write(x, 7, 0, 50, 50);
        return x;
    }

    /** All that can be asked, and all of it again once the image is restored. */
    private static List<Long> allOf(ServesWhatOneDreamt x) {
        List<Long> all = new ArrayList<>(Told.all(x));
        all.add((long) x.restore());
        all.addAll(Told.all(x));
        return all;
    }

    private static final List<Long> UNTOUCHED = allOf(some());

    private static void due(String call, long got, long want) {
        CHECK.due(call, got, want);
    }

    private static String told(String name, int[] a) {
        StringBuilder s = new StringBuilder(name).append('(');
        for (int i = 0; i < a.length; i++) {
            s.append(i == 0 ? "" : ", ").append(a[i]);
        }
        return s.append(')').toString();
    }

    private static void refused(String name, Call call, long refusal, List<int[]> all) {
        for (int from = 0; from < all.size(); from += 100) {
            ServesWhatOneDreamt x = some();
            for (int[] a : all.subList(from, Math.min(all.size(), from + 100))) {
                due(told(name, a), call.of(x, a), refusal);
            }
            due(name + ", refused, changes nothing", allOf(x).equals(UNTOUCHED) ? 1 : 0, 1);
        }
    }

    private static void refused(String name, Call call, long refusal, int[]... all) {
        refused(name, call, refusal, List.of(all));
    }

    private static int[] with(int[] good, int place, int v) {
        int[] a = good.clone();
        a[place] = v;
        return a;
    }

    private static List<Integer> beyond(int[] range) {
        List<Integer> values = new ArrayList<>();
        if (range[0] > MIN) {
            values.addAll(List.of(range[0] - 1, MIN));
        }
        if (range[1] < MAX) {
            values.addAll(List.of(range[1] + 1, MAX));
        }
        return values;
    }

    /** Each argument at either end of its range is taken; the first beyond, and two beyond at once, are refused. */
    private static void ranges(String name, Call call, long refusal, int[] good, int[]... ranges) {
        List<int[]> all = new ArrayList<>();
        for (int place = 0; place < good.length; place++) {
            for (int end : ranges[place]) {
                int[] a = with(good, place, end);
                due(told(name, a) + " is taken", call.of(some(), a) == refusal ? 0 : 1, 1);
            }
            for (int v : beyond(ranges[place])) {
                int[] a = with(good, place, v);
                all.add(a);
                for (int other = 0; other < place; other++) {
                    for (int w : beyond(ranges[other])) {
                        all.add(with(a, other, w));
                    }
                }
            }
        }
        refused(name, call, refusal, all);
    }

    private static int[] a(int... arguments) {
        return arguments;
    }

    /** Promises 2 to 9. */
    private static void innAsTold() {
        ranges("inn", (x, a) -> x.inn(a[0]), -1, a(0), SHELF);
        refused("inn", (x, a) -> x.inn(a[0]), -11, a(5), a(6));
        refused("inn", (x, a) -> x.inn(a[0]), -12, a(1), a(2), a(3), a(4));
        refused("inn", (x, a) -> x.inn(a[0]), -1000, a(0), a(7));
        ranges("guest", (x, a) -> x.guest(a[0], a[1]), -1, a(0, 0), GUEST, a(0, 7));
        ranges("larder", (x, a) -> x.larder(a[0]), -1, a(0), PLATE);
        ranges("comes", (x, a) -> x.comes(a[0], a[1]), -1, a(3, 0), SHELF, PLATE);
        refused("comes", (x, a) -> x.comes(a[0], a[1]), -11, a(5, 0), a(6, 9));
        refused("comes", (x, a) -> x.comes(a[0], a[1]), -12, a(0, 0), a(1, 9), a(2, 0), a(7, 0));
        ranges("wishes", (x, a) -> x.wishes(a[0], a[1]), -1, a(0, 0), GUEST, PLATE);
        ranges("heals", (x, a) -> x.heals(a[0], a[1]), -1, a(0, 1), GUEST, a(1, 99));
        refused("heals", (x, a) -> x.heals(a[0], a[1]), -3, a(2, 1), a(2, 99));
        ranges("fills", (x, a) -> x.fills(a[0], a[1]), -1, a(0, 0), PLATE, a(0, 99));
        ranges("nights", (x, a) -> x.nights(a[0]), -1, a(1), a(1, 60));
    }

    /** Promises 10 to 15. */
    private static void nightsOn() {
        ranges("guestThen", (x, a) -> x.guestThen(a[0], a[1], a[2]), -1, a(0, 0, 0), GUEST, WHILE, YES_NO);
        ranges("larderThen", (x, a) -> x.larderThen(a[0], a[1]), -1, a(0, 0), PLATE, WHILE);
        ranges("then", (x, a) -> x.then(a[0], a[1]), -1, a(0, 0), WHILE, a(0, 2));
        ranges("leaves", (x, a) -> x.leaves(a[0]), -1, a(0), a(-1, 2));
        ranges("out", (x, a) -> x.out(a[0]), -1, a(0), PLATE);
        ranges("table", (x, a) -> x.table(a[0], a[1]), -1, a(0, 0), GUEST, YES_NO);
    }

    /** Promises 16 to 21. */
    private static void whatIsBest() {
        ranges("bestWish", (x, a) -> x.bestWish(a[0], a[1], a[2]), -1, a(0, 0, 0), GUEST, WHILE, YES_NO);
        ranges("buy", (x, a) -> x.buy(a[0]), -1, a(0), WHILE);
        ranges("least", (x, a) -> x.least(a[0], a[1]), -1, a(0, 1), PLATE, a(1, 20));
        ranges("send", (x, a) -> x.send(a[0]), -1, a(0), WHILE);
        ranges("seats", (x, a) -> x.seats(a[0]), -1, a(0), a(0, MAX));
        ranges("same", (x, a) -> x.same(a[0]), -1, a(0), a(0, 6));
    }

    /** Promises 22 to 26. */
    private static void whatKind() {
        ranges("whatIs", (x, a) -> x.whatIs(a[0], a[1], a[2]), -1, a(0, 0, 0), SHELF, GUEST, YES_NO);
        refused("whatIs", (x, a) -> x.whatIs(a[0], a[1], a[2]), -11, a(5, 0, 0), a(6, 2, 1));
        refused("whatIs", (x, a) -> x.whatIs(a[0], a[1], a[2]), -12, a(3, 0, 0), a(4, 2, 1));
        ranges("whatWish", (x, a) -> x.whatWish(a[0], a[1]), -1, a(0, 0), SHELF, GUEST);
        refused("whatWish", (x, a) -> x.whatWish(a[0], a[1]), -11, a(5, 0), a(6, 2));
        refused("whatWish", (x, a) -> x.whatWish(a[0], a[1]), -12, a(3, 0), a(4, 2));
        ranges("two", (x, a) -> x.two(a[0], 1, a[1]), -1, a(0, 1), a(0, 0), a(1, 30));
        ranges("two", (x, a) -> x.two(1, a[0], a[1]), -1, a(0, 1), a(0, 0), a(1, 30));
        refused("two", (x, a) -> x.two(a[0], a[1], a[2]), -1, a(0, 0, 1), a(1, 1, 30), a(2, 2, 1), a(-1, -1, 1), a(3, 3, 1));
        refused("two", (x, a) -> x.two(a[0], a[1], a[2]), -3, a(0, 2, 1), a(2, 0, 30), a(1, 2, 1), a(2, 1, 1));
        ranges("mares", (x, a) -> x.mares(a[0], a[1], a[2], a[3], a[4]), LONG_REFUSED, a(0, 0, 2, 0, 0),
            GUEST, a(0, 7), a(2, 20), a(0, 99), YES_NO);
        ranges("mean", (x, a) -> x.mean(a[0]), LONG_REFUSED, a(0), YES_NO);
    }

    /** Promises 27 to 32. */
    private static void slatesAndYears() {
        ranges("forged", (x, a) -> x.forged(a[0]), -1, a(0), SHELF);
        refused("forged", (x, a) -> x.forged(a[0]), -11, a(5), a(6));
        refused("forged", (x, a) -> x.forged(a[0]), -12, a(3), a(4));
        ranges("judge", (x, a) -> x.judge(a[0]), -1, a(0), SHELF);
        refused("judge", (x, a) -> x.judge(a[0]), -11, a(5), a(6));
        refused("judge", (x, a) -> x.judge(a[0]), -12, a(3), a(4));
        ranges("years", (x, a) -> x.years(a[0], a[1], a[2]), -1, a(1, 0, 0), a(1, 20), ANY, YES_NO);
        ranges("count", (x, a) -> x.count(a[0]), -1, a(0), a(0, 5));
    }

    /** Promises 33 to 39. */
    private static void shelves() {
        ranges("keep", (x, a) -> x.keep(a[0], a[1], a[2], a[3]), -1, a(0, 1, 0, 0), SHELF, YES_NO, a(0, 7), PLATE);
        ranges("row", (x, a) -> x.row(a[0], a[1], a[2]), -1, a(0, 0, 0), SHELF, a(0, 2), a(MIN, 100));
        refused("row", (x, a) -> x.row(a[0], a[1], a[2]), -14, a(0, 0, -1), a(7, 2, MIN), a(3, 1, -1), a(5, 0, -100));
        ranges("put", (x, a) -> x.put(a[0], 0, a[1]), -1, a(0, 0), SHELF, ANY);
        refused("put", (x, a) -> x.put(a[0], a[1], 77), -11, a(5, 0), a(6, 0));
        refused("put", (x, a) -> x.put(a[0], a[1], 77), -12, a(3, 0), a(4, 0));
        refused("put", (x, a) -> x.put(a[0], a[1], 77), -13, a(0, -1), a(0, 3), a(1, 2), a(2, 4), a(2, MIN), a(2, MAX));
        ranges("element", (x, a) -> Check.element(x, a[0], a[1]), Check.ILLEGAL_ARGUMENT, a(0, 0), SHELF, ANY);
        refused("element", (x, a) -> Check.element(x, a[0], a[1]), Check.ILLEGAL_STATE,
            a(5, 0), a(3, 0), a(0, 3), a(0, -1), a(1, 2), a(2, 4), a(2, MIN), a(2, MAX));
        ranges("copy", (x, a) -> x.copy(a[0], 0, a[1], 0, 1), -1, a(0, 0), SHELF, SHELF);
        refused("copy", (x, a) -> x.copy(a[0], 0, a[1], 0, 1), -11, a(0, 5), a(5, 0), a(5, 6), a(3, 5), a(5, 3), a(5, 5));
        refused("copy", (x, a) -> x.copy(a[0], 0, a[1], 0, 1), -12,
            a(0, 1), a(1, 0), a(0, 2), a(2, 1), a(0, 3), a(3, 0), a(3, 4), a(3, 3));
        refused("copy", (x, a) -> x.copy(0, a[0], 7, a[1], a[2]), -13,
            a(0, 0, 3), a(2, 0, 2), a(0, 1, 2), a(4, 0, 0), a(0, 3, 0), a(-1, 0, 1), a(0, -1, 1), a(0, 0, -1),
            a(1, 0, MAX), a(MAX, 0, 1), a(0, MAX, 1), a(MIN, 0, 1), a(MAX, MAX, MAX), a(MIN, MIN, MIN));
        ranges("cost", (x, a) -> x.cost(a[0]), -1, a(0), SHELF);
        refused("cost", (x, a) -> x.cost(a[0]), -11, a(5), a(6));
        refused("cost", (x, a) -> x.cost(a[0]), -12, a(0), a(1), a(2), a(7));
        ranges("toss", (x, a) -> x.toss(a[0]), -1, a(0), SHELF);
        refused("toss", (x, a) -> x.toss(a[0]), -11, a(5), a(6));
        refused("toss", (x, a) -> x.toss(a[0]), -12, a(0), a(1), a(2), a(7));
    }

    /** "-1, -11, -12 (a ROW), -2": an inn that is full. */
    private static void severalOfComes() {
        ServesWhatOneDreamt x = Check.inn("g000;g000;g000;g000;g000;g000;g000;");
        x.keep(3, 1, 1, 1);
        due("no room alone", x.comes(3, 0), -2);
        due("no such wish", x.comes(3, 10), -1);
        due("no such wish, nothing held", x.comes(0, -1), -1);
        due("no such wish, a row", x.comes(7, 10), -1);
        due("no such shelf", x.comes(8, 0), -1);
        due("nothing held", x.comes(0, 0), -11);
        due("a row", x.comes(7, 0), -12);
        due("seven still", x.count(0), 7);
        due("the seventh still", x.guest(6, 0), 0);
        x = new ServesWhatOneDreamt();
        due("no such wish, nothing held, room", x.comes(0, 10), -1);
        x.row(0, 0, 1);
        due("no such wish, a row, room", x.comes(0, 10), -1);
    }

    /** "-1, -3 GONE", "-1, -3 NIGHT above 999". */
    private static void severalOfHealsAndNights() {
        ServesWhatOneDreamt x = Check.inn("g300;h005;d01;");
        due("gone", x.heals(0, 1), -3);
        due("gone, 0", x.heals(0, 0), -1);
        due("gone, 100", x.heals(0, 100), -1);
        due("gone still", x.guest(0, 5), 0);
        due("at 0 still", x.guest(0, 4), 0);
        x = Told.inNight(999, "");
        due("1 night", x.nights(1), -3);
        due("0 nights", x.nights(0), -1);
        due("61 nights", x.nights(61), -1);
        due("very many nights", x.nights(MAX), -1);
        due("999 still", x.count(1), 999);
    }

    /** "-1, -11, -12 (no ROW)" of `whatIs` and `whatWish`. */
    private static void severalOfSlates() {
        ServesWhatOneDreamt x = Check.inn("g000;");
        x.keep(1, 1, 0, 0);
        due("no such one, nothing held", x.whatIs(0, 1, 0), -1);
        due("no such one, a guest held", x.whatIs(1, -1, 0), -1);
        due("no such what, nothing held", x.whatIs(0, 0, 2), -1);
        due("no such what, a guest held", x.whatIs(1, 0, -1), -1);
        due("no such shelf, no such one", x.whatIs(8, 1, 2), -1);
        due("wish: no such one, nothing held", x.whatWish(0, 1), -1);
        due("wish: no such one, a guest held", x.whatWish(1, -1), -1);
    }

    /** "-1 (one twice), -3 either is GONE". */
    private static void severalOfTwo() {
        ServesWhatOneDreamt x = Check.inn("g300;g300;g000;h005;h105;d01;");
        due("both are gone", x.two(0, 1, 1), -3);
        due("one gone, twice", x.two(0, 0, 1), -1);
        due("both are gone, 0 nights", x.two(0, 1, 0), -1);
        due("both are gone, 31 nights", x.two(0, 1, 31), -1);
        due("one gone, no such other", x.two(0, 3, 1), -1);
        due("no such one, the other gone", x.two(-1, 1, 1), -1);
        due("the second is gone", x.two(2, 1, 30), -3);
    }

    /** `row`, `put`, `element` and `copy`, where more than one REFUSAL holds. */
    private static void severalOfShelves() {
        refused("row", (x, a) -> x.row(a[0], a[1], a[2]), -1, a(8, 0, -1), a(0, 3, -1), a(-1, -1, MIN), a(8, 0, 101));
        refused("put", (x, a) -> x.put(a[0], a[1], 1), -1, a(8, -1), a(-1, 100));
        refused("put", (x, a) -> x.put(a[0], a[1], 1), -11, a(5, -1), a(6, 100));
        refused("put", (x, a) -> x.put(a[0], a[1], 1), -12, a(3, -1), a(4, 100));
        refused("element", (x, a) -> Check.element(x, a[0], a[1]), Check.ILLEGAL_ARGUMENT, a(8, -1), a(-1, 100));
        Call copy = (x, a) -> x.copy(a[0], a[1], a[2], a[3], a[4]);
        refused("copy", copy, -1, a(8, -1, 5, 0, -1), a(5, 0, 8, 0, 0), a(3, 0, -1, 0, 0), a(-1, 0, 3, 0, 0));
        refused("copy", copy, -11, a(5, -1, 0, 0, 0), a(0, -1, 5, 0, -1), a(3, 0, 5, 0, 0), a(5, 0, 3, 9, 9));
        refused("copy", copy, -12, a(0, -1, 1, 0, 0), a(0, 0, 2, 9, 0), a(3, 0, 0, 0, -1), a(0, 0, 4, 0, 101));
    }

    /** Refusals that hang upon how it is: `restore` without an image, a larder and guests of none. */
    private static void elsewhere() {
        ServesWhatOneDreamt x = new ServesWhatOneDreamt();
        List<Long> before = Told.all(x);
        due("restore() without an image", x.restore(), -3);
        for (int g : new int[] {-1, 0, 1, 6, 7}) {
            due("guest of nobody", x.guest(g, 0), -1);
            due("wishes of nobody", x.wishes(g, 0), -1);
            due("heals of nobody", x.heals(g, 50), -1);
            due("guestThen of nobody", x.guestThen(g, 0, 0), -1);
            due("table of nobody", x.table(g, 0), -1);
            due("bestWish of nobody", x.bestWish(g, 0, 0), -1);
            due("two of nobody", x.two(g, 0, 1), -1);
            due("mares of nobody", x.mares(g, 0, 2, 0, 0), LONG_REFUSED);
            due("whatIs of nobody", x.whatIs(0, g, 0), -1);
            due("whatWish of nobody", x.whatWish(0, g), -1);
        }
        due("restore() still", x.restore(), -3);
        due("nothing has changed", Told.all(x).equals(before) ? 1 : 0, 1);
    }

    /** "In mind": what looks on, tries or judges leaves all as it is. */
    private static void looksChangeNothing() {
        ServesWhatOneDreamt x = some();
        for (int g = 0; g < 3; g++) {
            lookAt(x, g);
        }
        x.larderThen(6, 60);
        x.then(60, 0);
        x.leaves(-1);
        x.out(6);
        x.buy(60);
        x.least(6, 20);
        x.send(60);
        x.seats(0);
        x.same(0);
        x.two(0, 1, 30);
        x.mean(0);
        x.forged(0);
        x.judge(7);
        x.years(20, 5, 0);
        x.count(5);
        x.cost(3);
        x.toss(4);
        Check.element(x, 2, 3);
        due("looks change nothing", allOf(x).equals(UNTOUCHED) ? 1 : 0, 1);
    }

    private static void lookAt(ServesWhatOneDreamt x, int g) {
        x.guest(g, 7);
        x.guestThen(g, 60, 0);
        x.leaves(g);
        x.table(g, 1);
        x.bestWish(g, 60, 0);
        x.whatIs(0, g, 0);
        x.whatIs(1, g, 1);
        x.whatWish(2, g);
        x.mares(g, 7, 3, 40, 0);
    }
}
