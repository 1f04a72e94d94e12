import java.math.BigInteger;
import java.nio.charset.StandardCharsets;
import java.util.ArrayList;
import java.util.List;
import java.util.regex.Matcher;
import java.util.regex.Pattern;

/**
 * The document once more, written plainly and apart from the program, with all of the Java library:
 * what the program answers in random runs is compared with what this answers.
 */
final class Model {
    private static final Pattern TEXT = Pattern.compile("(?:[glh][0-9]{3};|[webd][0-9]{2};)+");

    static class Guest {
        int kind;
        int figure;
        int wish;
        int last = 0;
        int health = 50;
        boolean there = true;

        Integer dreams(int d) {
            return wish;
        }

        int eats() {
            return 1;
        }

        int gains(int k) {
            return k == last ? 0 : 2;
        }

        int costs() {
            return 3;
        }

        int failure() {
            return figure == 0 ? -15 : figure;
        }

        Guest again() {
            return again(kind, figure);
        }

        Guest again(int newKind, int newFigure) {
            Guest g = of(newKind, newFigure);
            g.wish = wish;
            g.last = last;
            g.health = health;
            g.there = there;
            return g;
        }

        static Guest of(int kind, int figure) {
            Guest[] all = {new Guest(), new Plain(), new Bride(), new Cook(), new Murderer(), new Child(),
                new Widower(), new Traveller()};
            Guest g = all[kind];
            g.kind = kind;
            g.figure = figure;
            return g;
        }
    }

    static class Plain extends Guest {
        @Override Integer dreams(int d) {
            return 1;
        }

        @Override int gains(int k) {
            return 1;
        }

        @Override int costs() {
            return 1;
        }

        @Override int failure() {
            return -15;
        }
    }

    static class Bride extends Guest {
        @Override Integer dreams(int d) {
            return (wish + d) % 10;
        }

        @Override int eats() {
            return 2;
        }

        @Override int gains(int k) {
            return k / 2;
        }

        @Override int costs() {
            return super.costs() + figure;
        }

        @Override int failure() {
            return figure == 0 ? -15 : 100 + figure;
        }
    }

    static class Cook extends Guest {
        @Override Integer dreams(int d) {
            return d % (figure + 2) != 0 ? null : super.dreams(d);
        }

        @Override int gains(int k) {
            return 9 - k;
        }

        @Override int costs() {
            return 2 * super.costs();
        }
    }

    static class Murderer extends Plain {
        @Override Integer dreams(int d) {
            return 0;
        }

        @Override int costs() {
            return 0;
        }
    }

    static class Child extends Bride {
        @Override Integer dreams(int d) {
            return (last + 1 + figure) % 10;
        }

        @Override int eats() {
            return super.eats() - 1;
        }

        @Override int gains(int k) {
            return super.gains(k) - 3;
        }

        @Override int costs() {
            return super.costs() / 2;
        }
    }

    static class Widower extends Murderer {
        @Override Integer dreams(int d) {
            return 9;
        }

        @Override int gains(int k) {
            return figure;
        }
    }

    static class Traveller extends Cook {
        @Override Integer dreams(int d) {
            return d % 2 == 0 ? Integer.valueOf(last) : super.dreams(d);
        }

        @Override int eats() {
            return super.eats() + 1;
        }

        @Override int gains(int k) {
            return Math.max(super.gains(k) - 1, 0);
        }

        @Override int costs() {
            return Math.max(super.costs() - figure, 0);
        }

        @Override int failure() {
            return figure == 0 ? -15 : 200 + costs();
        }
    }

    static class Inn {
        List<Guest> guests = new ArrayList<>();
        int[] plates = {5, 5, 5, 5, 5, 5, 5, 5, 5, 5};
        int served = 0;
        int lacking = 0;
        int night = 0;
        List<Guest> fed = new ArrayList<>();

        Inn again() {
            Inn inn = new Inn();
            for (Guest g : guests) {
                inn.guests.add(g.again());
            }
            inn.plates = plates.clone();
            inn.served = served;
            inn.lacking = lacking;
            inn.night = night;
            return inn;
        }

        Inn on(int n) {
            Inn inn = again();
            for (int i = 0; i < n; i++) {
                inn.pass(false, List.of());
            }
            return inn;
        }

        void pass(boolean mare, List<Integer> silent) {
            night++;
            plates[night % 10] = Math.min(99, plates[night % 10] + 2);
            fed.clear();
            for (Guest g : guests) {
                if (!g.there) {
                    continue;
                }
                Integer dream = g.dreams(night);
                if (mare && dream != null) {
                    dream = 7;
                }
                if (silent.contains(guests.indexOf(g))) {
                    dream = 1;
                }
                if (dream == null) {
                    g.health -= 5;
                } else if (plates[dream] >= g.eats()) {
                    plates[dream] -= g.eats();
                    g.health = Math.min(99, g.health + g.gains(dream));
                    g.last = dream;
                    served = Math.min(9999, served + 1);
                    fed.add(g);
                } else {
                    g.health -= 3;
                    lacking = Math.min(9999, lacking + 1);
                }
                g.health = Math.max(0, g.health);
                g.there = g.health > 0;
            }
        }

        int total() {
            int sum = 0;
            for (int p : plates) {
                sum += p;
            }
            return sum;
        }

        int thereBits() {
            int bits = 0;
            for (int g = 0; g < guests.size(); g++) {
                bits |= guests.get(g).there ? 1 << g : 0;
            }
            return bits;
        }
    }

    Inn inn = new Inn();
    Inn image = null;
    Object[] shelves = new Object[8];

    private boolean noGuest(int g) {
        return g < 0 || g >= inn.guests.size();
    }

    private static boolean out(int v, int low, int high) {
        return v < low || v > high;
    }

    private static int sizeOf(Object row) {
        return row instanceof byte[] b ? b.length : row instanceof short[] s ? s.length : ((int[]) row).length;
    }

    private static int at(Object row, int i) {
        return row instanceof byte[] b ? b[i] : row instanceof short[] s ? s[i] : ((int[]) row)[i];
    }

    private static boolean skipped(Object row, int i) {
        int least = row instanceof byte[] ? Byte.MIN_VALUE
            : row instanceof short[] ? Short.MIN_VALUE : Integer.MIN_VALUE;
        return at(row, i) == least;
    }

    private int wantRow(int d) {
        return out(d, 0, 7) ? -1 : shelves[d] == null ? -11 : shelves[d] instanceof Guest ? -12 : 0;
    }

    private int wantGuest(int d) {
        return out(d, 0, 7) ? -1 : shelves[d] == null ? -11 : shelves[d] instanceof Guest ? 0 : -12;
    }

    int inn(int d) {
        int no = wantRow(d);
        if (no != 0) {
            return no;
        }
        if (!(shelves[d] instanceof byte[])) {
            return -12;
        }
        String text = new String((byte[]) shelves[d], StandardCharsets.ISO_8859_1);
        for (int p = 0; p < text.length(); p++) {
            Matcher m = TEXT.matcher(text.substring(0, p + 1));
            if (!m.matches() && !m.hitEnd()) {
                return -1000 - p;
            }
        }
        if (!TEXT.matcher(text).matches()) {
            return -1000 - text.length();
        }
        Inn told = inn.again();
        int place = 0;
        int many = 0;
        for (String statement : text.split(";")) {
            if (!tell(told, statement.charAt(0), statement.substring(1))) {
                return -2000 - place;
            }
            place += statement.length() + 1;
            many++;
        }
        inn = told;
        return many;
    }

    private static boolean tell(Inn told, char letter, String digits) {
        int one = digits.charAt(0) - '0';
        int two = digits.charAt(1) - '0';
        int number = Integer.parseInt(digits.substring(1));
        boolean noSuch = one >= told.guests.size();
        switch (letter) {
            case 'g' -> {
                if (one > 7 || told.guests.size() == 7) {
                    return false;
                }
                Guest g = Guest.of(one, two);
                g.wish = digits.charAt(2) - '0';
                told.guests.add(g);
            }
            case 'l' -> told.plates[one] = number;
            case 'b' -> told.plates[one] = Math.min(99, told.plates[one] + number);
            case 'd' -> {
                int n = Integer.parseInt(digits);
                if (n < 1 || n > 60 || told.night + n > 999) {
                    return false;
                }
                for (int i = 0; i < n; i++) {
                    told.pass(false, List.of());
                }
            }
            case 'w' -> {
                if (noSuch) {
                    return false;
                }
                told.guests.get(one).wish = two;
            }
            case 'e' -> {
                if (noSuch) {
                    return false;
                }
                told.guests.get(one).last = two;
            }
            default -> {
                if (noSuch || number < 1) {
                    return false;
                }
                told.guests.get(one).health = number;
                told.guests.get(one).there = true;
            }
        }
        return true;
    }

    int guest(int g, int what) {
        if (noGuest(g) || out(what, 0, 7)) {
            return -1;
        }
        Guest one = inn.guests.get(g);
        return new int[] {one.kind, one.figure, one.wish, one.last, one.health, one.there ? 1 : 0, one.eats(),
            one.gains(one.wish) + 10}[what];
    }

    int larder(int k) {
        return out(k, 0, 9) ? -1 : inn.plates[k];
    }

    int comes(int d, int wish) {
        if (out(d, 0, 7) || out(wish, 0, 9)) {
            return -1;
        }
        int no = wantGuest(d);
        if (no != 0) {
            return no;
        }
        if (inn.guests.size() == 7) {
            return -2;
        }
        Guest held = (Guest) shelves[d];
        Guest one = Guest.of(held.kind, held.figure);
        one.wish = wish;
        inn.guests.add(one);
        return inn.guests.size() - 1;
    }

    int wishes(int g, int k) {
        if (noGuest(g) || out(k, 0, 9)) {
            return -1;
        }
        int old = inn.guests.get(g).wish;
        inn.guests.get(g).wish = k;
        return old;
    }

    int heals(int g, int v) {
        if (noGuest(g) || out(v, 1, 99)) {
            return -1;
        }
        Guest one = inn.guests.get(g);
        int old = one.health;
        if (!one.there) {
            return -3;
        }
        one.health = v;
        return old;
    }

    int fills(int k, int v) {
        if (out(k, 0, 9) || out(v, 0, 99)) {
            return -1;
        }
        int old = inn.plates[k];
        inn.plates[k] = v;
        return old;
    }

    int nights(int n) {
        if (out(n, 1, 60)) {
            return -1;
        }
        if (inn.night + n > 999) {
            return -3;
        }
        inn = inn.on(n);
        return Integer.bitCount(inn.thereBits());
    }

    int guestThen(int g, int n, int what) {
        if (noGuest(g) || out(n, 0, 60) || out(what, 0, 1)) {
            return -1;
        }
        Guest one = inn.on(n).guests.get(g);
        return what == 0 ? one.health : one.last;
    }

    int larderThen(int k, int n) {
        return out(k, 0, 9) || out(n, 0, 60) ? -1 : inn.on(n).plates[k];
    }

    int then(int n, int what) {
        if (out(n, 0, 60) || out(what, 0, 2)) {
            return -1;
        }
        Inn later = inn.on(n);
        return new int[] {later.thereBits(), later.served, later.lacking}[what];
    }

    private int goneBehind(int g) {
        for (int n = 0; n <= 60; n++) {
            if (!inn.on(n).guests.get(g).there) {
                return n;
            }
        }
        return -4;
    }

    int leaves(int g) {
        if (g != -1) {
            return noGuest(g) ? -1 : goneBehind(g);
        }
        int best = -4;
        int soonest = 61;
        for (int o = 0; o < inn.guests.size(); o++) {
            int behind = goneBehind(o);
            if (inn.guests.get(o).there && behind >= 0 && behind < soonest) {
                soonest = behind;
                best = o;
            }
        }
        return best;
    }

    int out(int k) {
        if (out(k, 0, 9)) {
            return -1;
        }
        for (int n = 0; n <= 60; n++) {
            if (inn.on(n).plates[k] == 0) {
                return n;
            }
        }
        return -4;
    }

    private int dreamOf(int g) {
        Guest one = inn.guests.get(g);
        Integer dream = one.there ? one.dreams(inn.night + 1) : null;
        return dream == null ? -4 : dream;
    }

    int table(int g, int what) {
        if (noGuest(g) || out(what, 0, 1)) {
            return -1;
        }
        if (what == 0) {
            return dreamOf(g);
        }
        Inn later = inn.on(1);
        return later.fed.contains(later.guests.get(g)) ? 1 : 0;
    }

    int bestWish(int g, int n, int what) {
        if (noGuest(g) || out(n, 0, 60) || out(what, 0, 1)) {
            return -1;
        }
        int best = 9;
        int most = 0;
        for (int k = 9; k >= 0; k--) {
            Inn other = inn.again();
            other.guests.get(g).wish = k;
            int health = other.on(n).guests.get(g).health;
            if (health >= most) {
                most = health;
                best = k;
            }
        }
        return what == 0 ? best : most;
    }

    int buy(int n) {
        if (out(n, 0, 60)) {
            return -1;
        }
        int best = -4;
        int least = inn.on(n).lacking;
        for (int k = 0; k < 10; k++) {
            Inn other = inn.again();
            other.plates[k] = Math.min(99, other.plates[k] + 5);
            int lacking = other.on(n).lacking;
            if (lacking < least) {
                least = lacking;
                best = k;
            }
        }
        return best;
    }

    int least(int k, int n) {
        if (out(k, 0, 9) || out(n, 1, 20)) {
            return -1;
        }
        for (int v = 0; v <= 99; v++) {
            Inn other = inn.again();
            other.plates[k] = v;
            if (other.on(n).lacking == inn.lacking) {
                return v;
            }
        }
        return -4;
    }

    int send(int n) {
        if (out(n, 0, 60)) {
            return -1;
        }
        int best = -4;
        int most = 0;
        for (int g = 0; g < inn.guests.size(); g++) {
            if (inn.guests.get(g).there) {
                int sent = othersThen(g, true, n);
                int asItIs = othersThen(g, false, n);
                if (sent > asItIs && (best == -4 || sent > most)) {
                    most = sent;
                    best = g;
                }
            }
        }
        return best;
    }

    private int othersThen(int g, boolean sent, int n) {
        Inn other = inn.again();
        if (sent) {
            other.guests.get(g).there = false;
        }
        other = other.on(n);
        int sum = 0;
        for (int o = 0; o < inn.guests.size(); o++) {
            if (o != g && inn.guests.get(o).there && other.guests.get(o).there) {
                sum += other.guests.get(o).health;
            }
        }
        return sum;
    }

    int seats(int i) {
        if (i < 0) {
            return -1;
        }
        List<Integer> standing = new ArrayList<>();
        for (int g = 0; g < inn.guests.size(); g++) {
            if (inn.guests.get(g).there) {
                standing.add(g);
            }
        }
        List<Integer> row = firstRow(new ArrayList<>(), standing);
        return row == null || i >= row.size() ? -4 : row.get(i);
    }

    /** Looks at every order, the least numbers first, and only at its end whether it will do. */
    private List<Integer> firstRow(List<Integer> row, List<Integer> standing) {
        if (standing.isEmpty()) {
            for (int i = 1; i < row.size(); i++) {
                int one = dreamOf(row.get(i - 1));
                if (one >= 0 && one == dreamOf(row.get(i))) {
                    return null;
                }
            }
            return row;
        }
        for (Integer g : standing) {
            List<Integer> longer = new ArrayList<>(row);
            longer.add(g);
            List<Integer> rest = new ArrayList<>(standing);
            rest.remove(g);
            List<Integer> found = firstRow(longer, rest);
            if (found != null) {
                return found;
            }
        }
        return null;
    }

    int same(int what) {
        int twos = 0;
        int wellest = -4;
        int wished = 0;
        int tasted = 0;
        for (int g = 0; g < inn.guests.size(); g++) {
            Guest one = inn.guests.get(g);
            if (!one.there) {
                continue;
            }
            wished |= 1 << one.wish;
            tasted |= 1 << one.last;
            if (wellest == -4 || one.health > inn.guests.get(wellest).health) {
                wellest = g;
            }
            for (int o = g + 1; o < inn.guests.size(); o++) {
                twos += dreamOf(g) >= 0 && dreamOf(g) == dreamOf(o) ? 1 : 0;
            }
        }
        int fullest = 0;
        int empty = 0;
        for (int k = 0; k < 10; k++) {
            fullest = inn.plates[k] > inn.plates[fullest] ? k : fullest;
            empty |= inn.plates[k] == 0 ? 1 << k : 0;
        }
        int[] answers = {twos, wellest, fullest, inn.total(), empty, wished, tasted};
        return out(what, 0, 6) ? -1 : answers[what];
    }

    int whatIs(int d, int g, int what) {
        if (out(d, 0, 7) || noGuest(g) || out(what, 0, 1)) {
            return -1;
        }
        int no = wantRow(d);
        if (no != 0) {
            return no;
        }
        int bits = 0;
        for (int way = 0; way < (what == 0 ? 8 : 10); way++) {
            Inn other = inn.again();
            Guest one = other.guests.get(g);
            other.guests.set(g, what == 0 ? one.again(way, one.figure) : one.again(one.kind, way));
            boolean so = true;
            for (int i = 0; i < sizeOf(shelves[d]); i++) {
                so &= skipped(shelves[d], i) || at(shelves[d], i) == other.on(i).guests.get(g).health;
            }
            bits |= so ? 1 << way : 0;
        }
        return bits;
    }

    int whatWish(int d, int g) {
        if (out(d, 0, 7) || noGuest(g)) {
            return -1;
        }
        int no = wantRow(d);
        if (no != 0) {
            return no;
        }
        int bits = 0;
        for (int k = 0; k < 10; k++) {
            Inn other = inn.again();
            other.guests.get(g).wish = k;
            boolean so = true;
            for (int i = 0; i < sizeOf(shelves[d]); i++) {
                so &= skipped(shelves[d], i) || at(shelves[d], i) == other.on(i + 1).guests.get(g).last;
            }
            bits |= so ? 1 << k : 0;
        }
        return bits;
    }

    private int[] pay(int a, int b, int n, int one, int other) {
        List<Integer> silent = new ArrayList<>();
        if (one == 0) {
            silent.add(a);
        }
        if (other == 0) {
            silent.add(b);
        }
        Inn later = inn.again();
        later.pass(false, silent);
        later = later.on(n - 1);
        return new int[] {later.guests.get(a).health - 2 * (1 - one), later.guests.get(b).health - 2 * (1 - other)};
    }

    int two(int a, int b, int n) {
        if (noGuest(a) || noGuest(b) || a == b || out(n, 1, 30)) {
            return -1;
        }
        if (!inn.guests.get(a).there || !inn.guests.get(b).there) {
            return -3;
        }
        for (int one = 0; one < 2; one++) {
            for (int other = 0; other < 2; other++) {
                int[] pay = pay(a, b, n, one, other);
                if (pay(a, b, n, 1 - one, other)[0] <= pay[0] && pay(a, b, n, one, 1 - other)[1] <= pay[1]) {
                    return 10 * one + other;
                }
            }
        }
        return -4;
    }

    long mares(int g, int n, int t, int v, int part) {
        if (noGuest(g) || out(n, 0, 7) || out(t, 2, 20) || out(v, 0, 99) || out(part, 0, 1)) {
            return 1000000001L;
        }
        BigInteger above = ways(inn, g, n, t, v);
        BigInteger below = BigInteger.valueOf(t).pow(n);
        BigInteger shared = above.gcd(below);
        return (part == 0 ? above : below).divide(shared).longValueExact();
    }

    private static BigInteger ways(Inn from, int g, int n, int t, int v) {
        if (n == 0) {
            return from.guests.get(g).health >= v ? BigInteger.ONE : BigInteger.ZERO;
        }
        Inn calm = from.again();
        calm.pass(false, List.of());
        Inn mare = from.again();
        mare.pass(true, List.of());
        return ways(calm, g, n - 1, t, v).multiply(BigInteger.valueOf(t - 1)).add(ways(mare, g, n - 1, t, v));
    }

    long mean(int part) {
        if (out(part, 0, 1)) {
            return 1000000001L;
        }
        int sum = 0;
        int many = 0;
        for (Guest g : inn.guests) {
            if (g.there) {
                sum += g.health;
                many++;
            }
        }
        if (many == 0) {
            return part;
        }
        int shared = BigInteger.valueOf(sum).gcd(BigInteger.valueOf(many)).intValue();
        return part == 0 ? sum / shared : many / shared;
    }

    int forged(int d) {
        int no = wantRow(d);
        if (no != 0) {
            return no;
        }
        for (int k = 0; k < sizeOf(shelves[d]); k++) {
            if (k > 9 || at(shelves[d], k) != inn.plates[k]) {
                return k;
            }
        }
        return -4;
    }

    int judge(int d) {
        int no = wantRow(d);
        if (no != 0) {
            return no;
        }
        for (int i = 0; i < sizeOf(shelves[d]); i++) {
            if (!skipped(shelves[d], i) && at(shelves[d], i) != inn.on(i).total()) {
                return i;
            }
        }
        return -4;
    }

    private int seed;

    private int draw(int below) {
        seed = seed * 1103515245 + 12345;
        return (seed & Integer.MAX_VALUE) / 65536 % below;
    }

    int years(int n, int z, int what) {
        if (out(n, 1, 20) || out(what, 0, 1)) {
            return -1;
        }
        seed = z;
        int served = 0;
        int there = 0;
        for (int y = 0; y < n; y++) {
            Inn year = inn.again();
            for (Guest g : year.guests) {
                g.wish = draw(10);
            }
            for (int k = 0; k < 10; k++) {
                year.plates[k] = draw(6);
            }
            year = year.on(12);
            served += year.served - inn.served;
            there += Integer.bitCount(year.thereBits());
        }
        return what == 0 ? served : there;
    }

    int image() {
        image = inn.again();
        return inn.night;
    }

    int restore() {
        if (image == null) {
            return -3;
        }
        inn = image.again();
        return inn.night;
    }

    int count(int what) {
        int[] answers = {inn.guests.size(), inn.night, inn.served, inn.lacking, inn.thereBits(), inn.total()};
        return out(what, 0, 5) ? -1 : answers[what];
    }

    int keep(int d, int what, int k, int figure) {
        if (out(d, 0, 7) || out(what, 0, 1) || what == 1 && (out(k, 0, 7) || out(figure, 0, 9))) {
            return -1;
        }
        shelves[d] = what == 0 ? null : Guest.of(k, figure);
        return 0;
    }

    int row(int d, int sort, int n) {
        if (out(d, 0, 7) || out(sort, 0, 2) || n > 100) {
            return -1;
        }
        if (n < 0) {
            return -14;
        }
        shelves[d] = sort == 0 ? new byte[n] : sort == 1 ? new short[n] : new int[n];
        return 0;
    }

    int put(int d, int i, int v) {
        int no = wantRow(d);
        if (no != 0) {
            return no;
        }
        if (i < 0 || i >= sizeOf(shelves[d])) {
            return -13;
        }
        if (shelves[d] instanceof byte[] b) {
            b[i] = (byte) v;
        } else if (shelves[d] instanceof short[] s) {
            s[i] = (short) v;
        } else {
            ((int[]) shelves[d])[i] = v;
        }
        return 0;
    }

    long element(int d, int i) {
        if (out(d, 0, 7)) {
            return Check.ILLEGAL_ARGUMENT;
        }
        if (wantRow(d) != 0 || i < 0 || i >= sizeOf(shelves[d])) {
            return Check.ILLEGAL_STATE;
        }
        return at(shelves[d], i);
    }

    int copy(int d, int i, int e, int j, int n) {
        if (out(d, 0, 7) || out(e, 0, 7)) {
            return -1;
        }
        if (shelves[d] == null || shelves[e] == null) {
            return -11;
        }
        if (wantRow(d) != 0 || wantRow(e) != 0 || shelves[d].getClass() != shelves[e].getClass()) {
            return -12;
        }
        if (i < 0 || j < 0 || n < 0 || (long) i + n > sizeOf(shelves[d]) || (long) j + n > sizeOf(shelves[e])) {
            return -13;
        }
        int[] taken = new int[n];
        for (int x = 0; x < n; x++) {
            taken[x] = at(shelves[d], i + x);
        }
        for (int x = 0; x < n; x++) {
            put(e, j + x, taken[x]);
        }
        return n;
    }

    int cost(int d) {
        int no = wantGuest(d);
        return no != 0 ? no : ((Guest) shelves[d]).costs();
    }

    int toss(int d) {
        int no = wantGuest(d);
        return no != 0 ? no : ((Guest) shelves[d]).failure();
    }
}
