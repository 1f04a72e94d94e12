import java.util.Random;

/** Runs of random calls, up to the 512 that an object is promised, against the model. */
public final class RandomRunsTest {
    private static final int RUNS = 1500;
    private static final String[] ODD_TEXTS = {"", ";", "g", "g0", "g000", "g000;;", "g000;x", "G000;", "g00;", "l10;",
        "g0a0;", "d1;", "h0500;", "w00", "g000;w00", "w99;", "h700;", "d00;", "d61;", "g900;", "e90;", "b99"};
    private static final String LETTERS = "gglwhebd";

    private final Random random;
    private final ServesWhatOneDreamt x = new ServesWhatOneDreamt();
    private final Model m = new Model();
    private final int run;
    private int calls = 0;

    private RandomRunsTest(int run) {
        this.run = run;
        random = new Random(run);
    }

    public static void main(String[] args) {
        int wrong = 0;
        for (int run = 0; run < RUNS && wrong < 5; run++) {
            wrong += new RandomRunsTest(run).go() ? 0 : 1;
        }
        System.out.println("RandomRunsTest: " + RUNS + " runs, " + wrong + " not as due");
        if (wrong != 0) {
            System.exit(1);
        }
    }

    private boolean wrong = false;

    private void due(String call, long got, long want) {
        calls++;
        if (got != want && !wrong) {
            wrong = true;
            System.out.println("run " + run + ", call " + calls + ": " + call + " answered " + got + ", due is " + want);
        }
    }

    private boolean go() {
        tellText(startText());
        while (calls < 350 && !wrong) {
            step();
        }
        for (int i = 0; i < 7 && !wrong; i++) {
            for (int what = 0; what < 8; what++) {
                due("guest(" + i + "," + what + ")", x.guest(i, what), m.guest(i, what));
            }
        }
        return !wrong;
    }

    /** Mostly a number of a range, now and then one beside it or far away. */
    private int near(int low, int high) {
        int odd = random.nextInt(40);
        if (odd == 0) {
            return low - 1;
        }
        if (odd == 1) {
            return high + 1;
        }
        if (odd == 2) {
            return random.nextInt();
        }
        if (odd == 3) {
            return random.nextBoolean() ? Integer.MIN_VALUE : Integer.MAX_VALUE;
        }
        return low + random.nextInt(high - low + 1);
    }

    private int someGuest() {
        return near(0, Math.max(0, m.inn.guests.size() - 1));
    }

    private String digits(int n) {
        StringBuilder s = new StringBuilder();
        for (int i = 0; i < n; i++) {
            s.append((char) ('0' + random.nextInt(random.nextInt(3) == 0 ? 10 : 7)));
        }
        return s.toString();
    }

    private String startText() {
        StringBuilder s = new StringBuilder();
        int guests = random.nextInt(8);
        for (int g = 0; g < guests; g++) {
            s.append('g').append(random.nextInt(8)).append(random.nextInt(10));
            s.append(random.nextInt(random.nextBoolean() ? 10 : 3)).append(';');
        }
        for (int i = 0; i < random.nextInt(4); i++) {
            s.append('l').append(random.nextInt(10)).append(digits(2)).append(';');
        }
        if (guests > 0 && random.nextBoolean()) {
            s.append('h').append(random.nextInt(guests)).append(random.nextInt(10)).append(1 + random.nextInt(9)).append(';');
        }
        if (random.nextInt(3) == 0) {
            s.append("d").append(random.nextInt(3)).append(1 + random.nextInt(9)).append(';');
        }
        return s.toString();
    }

    private String someText() {
        if (random.nextInt(3) == 0) {
            return ODD_TEXTS[random.nextInt(ODD_TEXTS.length)];
        }
        StringBuilder s = new StringBuilder();
        for (int i = 0; i <= random.nextInt(4); i++) {
            char letter = LETTERS.charAt(random.nextInt(LETTERS.length()));
            s.append(letter).append(digits("glh".indexOf(letter) >= 0 ? 3 : 2)).append(';');
        }
        if (random.nextInt(4) == 0) {
            s.setCharAt(random.nextInt(s.length()), (char) random.nextInt(256));
        }
        return s.toString();
    }

    private void tellText(String text) {
        int d = random.nextInt(8);
        due("row", x.row(d, 0, text.length()), m.row(d, 0, text.length()));
        for (int i = 0; i < text.length(); i++) {
            due("put", x.put(d, i, text.charAt(i)), m.put(d, i, text.charAt(i)));
        }
        due("inn of " + text, x.inn(d), m.inn(d));
    }

    /** A row of what really comes, so that rows that are so are met as well; now and then one cell is off. */
    private void tellSlate(int d, int sort) {
        int about = random.nextInt(4);
        int n = random.nextInt(random.nextInt(8) == 0 ? 60 : 11);
        int g = someGuest();
        due("row", x.row(d, sort, n), m.row(d, sort, n));
        int off = random.nextInt(4) == 0 ? random.nextInt(n + 1) : -1;
        for (int i = 0; i < n; i++) {
            int v = about == 0 ? m.guestThen(g, Math.min(i, 60), 0)
                : about == 1 ? m.guestThen(g, Math.min(i + 1, 60), 1)
                : about == 2 ? m.larder(i) : m.inn.on(i).total();
            v = i == off ? v + 1 : v;
            if (random.nextInt(6) == 0) {
                v = new int[] {-128, -32768, Integer.MIN_VALUE}[sort];
            }
            if (about == 2 && off < 0) {
                v = m.larder(i);
            }
            due("put", x.put(d, i, v), m.put(d, i, v));
        }
        switch (about) {
            case 0 -> {
                due("whatIs(" + g + ", 0)", x.whatIs(d, g, 0), m.whatIs(d, g, 0));
                due("whatIs(" + g + ", 1)", x.whatIs(d, g, 1), m.whatIs(d, g, 1));
            }
            case 1 -> due("whatWish(" + g + ")", x.whatWish(d, g), m.whatWish(d, g));
            case 2 -> due("forged", x.forged(d), m.forged(d));
            default -> due("judge", x.judge(d), m.judge(d));
        }
    }

    private void step() {
        int kind = random.nextInt(5);
        if (kind == 0) {
            change();
        } else if (kind == 1) {
            shelve();
        } else if (kind == 2) {
            lookOn();
        } else if (kind == 3) {
            lookBest();
        } else {
            lookAtSlates();
        }
    }

    private void change() {
        int g = someGuest();
        int k = near(0, 9);
        switch (random.nextInt(8)) {
            case 0 -> tellText(someText());
            case 1 -> {
                int d = near(0, 7);
                due("comes(" + d + "," + k + ")", x.comes(d, k), m.comes(d, k));
            }
            case 2 -> due("wishes(" + g + "," + k + ")", x.wishes(g, k), m.wishes(g, k));
            case 3 -> {
                int v = near(1, 99);
                due("heals(" + g + "," + v + ")", x.heals(g, v), m.heals(g, v));
            }
            case 4 -> {
                int v = random.nextBoolean() ? near(0, 99) : near(0, 4);
                due("fills(" + k + "," + v + ")", x.fills(k, v), m.fills(k, v));
            }
            case 5 -> {
                int n = random.nextInt(4) == 0 ? near(1, 60) : near(1, 5);
                due("nights(" + n + ")", x.nights(n), m.nights(n));
            }
            case 6 -> due("image()", x.image(), m.image());
            default -> due("restore()", x.restore(), m.restore());
        }
    }

    private void shelve() {
        int d = near(0, 7);
        int e = random.nextInt(4) == 0 ? d : near(0, 7);
        int i = near(0, 12);
        int v = random.nextInt(3) == 0 ? random.nextInt() : near(-200, 200);
        switch (random.nextInt(8)) {
            case 0 -> {
                int what = near(0, 1);
                int k = near(0, 7);
                int figure = near(0, 9);
                due("keep(" + d + "," + what + "," + k + "," + figure + ")", x.keep(d, what, k, figure),
                    m.keep(d, what, k, figure));
            }
            case 1 -> {
                int sort = near(0, 2);
                int n = random.nextInt(8) == 0 ? near(0, 100) : near(0, 14);
                due("row(" + d + "," + sort + "," + n + ")", x.row(d, sort, n), m.row(d, sort, n));
            }
            case 2, 3 -> due("put(" + d + "," + i + "," + v + ")", x.put(d, i, v), m.put(d, i, v));
            case 4 -> due("element(" + d + "," + i + ")", Check.element(x, d, i), m.element(d, i));
            case 5 -> {
                int j = near(0, 6);
                int n = near(0, 8);
                due("copy(" + d + "," + i + "," + e + "," + j + "," + n + ")", x.copy(d, i, e, j, n), m.copy(d, i, e, j, n));
                due("element after copy", Check.element(x, e, j), m.element(e, j));
                due("element after copy", Check.element(x, e, j + 2), m.element(e, j + 2));
            }
            case 6 -> due("cost(" + d + ")", x.cost(d), m.cost(d));
            default -> due("toss(" + d + ")", x.toss(d), m.toss(d));
        }
    }

    private void lookOn() {
        int g = someGuest();
        int n = near(0, 60);
        int k = near(0, 9);
        int what = near(0, 2);
        switch (random.nextInt(8)) {
            case 0 -> due("guest(" + g + "," + what + ")", x.guest(g, what), m.guest(g, what));
            case 1 -> due("larder(" + k + ")", x.larder(k), m.larder(k));
            case 2 -> due("guestThen(" + g + "," + n + "," + what + ")", x.guestThen(g, n, what), m.guestThen(g, n, what));
            case 3 -> due("larderThen(" + k + "," + n + ")", x.larderThen(k, n), m.larderThen(k, n));
            case 4 -> due("then(" + n + "," + what + ")", x.then(n, what), m.then(n, what));
            case 5 -> {
                int who = random.nextBoolean() ? -1 : g;
                due("leaves(" + who + ")", x.leaves(who), m.leaves(who));
            }
            case 6 -> due("out(" + k + ")", x.out(k), m.out(k));
            default -> due("table(" + g + "," + what + ")", x.table(g, what), m.table(g, what));
        }
    }

    private void lookBest() {
        int g = someGuest();
        int n = near(0, 60);
        int k = near(0, 9);
        switch (random.nextInt(7)) {
            case 0 -> {
                int what = near(0, 1);
                due("bestWish(" + g + "," + n + "," + what + ")", x.bestWish(g, n, what), m.bestWish(g, n, what));
            }
            case 1 -> due("buy(" + n + ")", x.buy(n), m.buy(n));
            case 2 -> {
                int few = near(1, 20);
                due("least(" + k + "," + few + ")", x.least(k, few), m.least(k, few));
            }
            case 3 -> due("send(" + n + ")", x.send(n), m.send(n));
            case 4 -> {
                int i = near(0, 6);
                due("seats(" + i + ")", x.seats(i), m.seats(i));
            }
            case 5 -> {
                int what = near(0, 6);
                due("same(" + what + ")", x.same(what), m.same(what));
            }
            default -> {
                int b = someGuest();
                int few = near(1, 30);
                due("two(" + g + "," + b + "," + few + ")", x.two(g, b, few), m.two(g, b, few));
            }
        }
    }

    private void lookAtSlates() {
        int d = near(0, 7);
        int g = someGuest();
        int part = near(0, 1);
        switch (random.nextInt(10)) {
            case 0, 1 -> tellSlate(random.nextInt(8), random.nextInt(3));
            case 2 -> due("whatIs(" + d + "," + g + "," + part + ")", x.whatIs(d, g, part), m.whatIs(d, g, part));
            case 3 -> due("whatWish(" + d + "," + g + ")", x.whatWish(d, g), m.whatWish(d, g));
            case 4 -> {
                int n = near(0, 7);
                int t = near(2, 20);
                int v = random.nextInt(3) == 0 ? near(0, 99) : Math.max(0, m.guest(g, 4) + random.nextInt(21) - 10);
                due("mares(" + g + "," + n + "," + t + "," + v + "," + part + ")", x.mares(g, n, t, v, part),
                    m.mares(g, n, t, v, part));
            }
            case 5 -> due("mean(" + part + ")", x.mean(part), m.mean(part));
            case 6 -> due("forged(" + d + ")", x.forged(d), m.forged(d));
            case 7 -> due("judge(" + d + ")", x.judge(d), m.judge(d));
            case 8 -> {
                int n = near(1, 20);
                int z = random.nextInt();
                due("years(" + n + "," + z + "," + part + ")", x.years(n, z, part), m.years(n, z, part));
            }
            default -> {
                int what = near(0, 5);
                due("count(" + what + ")", x.count(what), m.count(what));
            }
        }
    }
}
